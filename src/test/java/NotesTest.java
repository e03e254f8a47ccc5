/** Promises 25 to 34: note, penalty, appeal, draw, endYear, about, notes, penaltyAt, isDoubted, table. */
public final class NotesTest {
    public static void main(String[] args) {
        note();
        noteWrong();
        notes();
        notesWrong();
        penalty();
        penaltyWrong();
        appeal();
        appealWrong();
        draw();
        points();
        about();
        aboutWrong();
        penaltyAtWrong();
        doubted();
        doubtedWrong();
        table();
        tableTies();
        tableWrong();
        endYearWrong();
        grants();
        exchange();
        exchangeOfOnlyOnes();
        whatIsGone();
        Check.finish("NotesTest");
    }

    /** A street with two cells is the route of both leagues; the societies as told, with 1 member each. */
    private static Floatparade with(int... leagues) {
        Floatparade x = new Floatparade();
        x.street(0, 1, 2, 10, 10, 50);
        for (int league = 0; league < 2; league++) {
            x.route(league, 0);
            x.goOn(league, 1);
        }
        for (int league : leagues) {
            x.society(league, 1);
        }
        return x;
    }

    private static void run(Floatparade x, int league, int... societies) {
        for (int society : societies) {
            x.enter(society, 0);
        }
        x.begin(league, 1, 200);
        x.march(league, 60);
    }

    private static void isTable(Floatparade x, int league, int... due) {
        for (int i = 0; i < due.length; i++) {
            Check.is("table(" + league + ", " + i + ")", due[i], x.table(league, i));
        }
        Check.is("table, behind the last", -1, x.table(league, due.length));
    }

    private static void note() {
        Floatparade x = with(0, 1);
        run(x, 0, 0);
        Check.is("none before", -1, x.note(0, 0, 0, 50));
        Check.is("50 before", 50, x.note(0, 0, 0, 100));
        Check.is("100 before", 100, x.note(0, 0, 0, 77));
        Check.is("another judge", -1, x.note(3, 0, 0, 60));
        Check.is("another category", -1, x.note(0, 0, 4, 61));
        Check.is("both", -1, x.note(3, 0, 4, 62));
        Check.is("again", 62, x.note(3, 0, 4, 50));
        Check.is("the latest count", 77 + 60, x.notes(0, 0));
        Check.is("the latest count", 61 + 50, x.notes(0, 4));
    }

    private static void noteWrong() {
        Floatparade x = with(0, 0, 1);
        Check.state("not entered", () -> x.note(0, 0, 0, 50));
        x.enter(0, 0);
        Check.state("not begun", () -> x.note(0, 0, 0, 50));
        x.begin(0, 1, 200);
        Check.state("not ended", () -> x.note(0, 0, 0, 50));
        x.march(0, 60);
        Check.index("society -1, ahead of the judge", () -> x.note(4, -1, 0, 50));
        Check.index("society 3, ahead of the note", () -> x.note(0, 3, 0, 49));
        Check.argument("judge -1", () -> x.note(-1, 0, 0, 50));
        Check.argument("judge 4", () -> x.note(4, 0, 0, 50));
        Check.argument("category -1", () -> x.note(0, 0, -1, 50));
        Check.argument("category 5", () -> x.note(0, 0, 5, 50));
        Check.argument("note 49", () -> x.note(0, 0, 0, 49));
        Check.argument("note 101", () -> x.note(0, 0, 0, 101));
        Check.argument("note ahead of the march", () -> x.note(0, 1, 0, 101));
        Check.state("not in it", () -> x.note(0, 1, 0, 50));
        Check.state("the other league", () -> x.note(0, 2, 0, 50));
        Check.is("nothing was changed", -1, x.note(0, 0, 0, 50));
        Check.is("nothing was changed", 0, x.about(1, 5));
        x.enter(2, 0);
        Check.state("entered, in the other league", () -> x.note(0, 2, 0, 50));
    }

    private static void notes() {
        Floatparade x = with(0, 0);
        run(x, 0, 0, 1);
        Check.is("none", 0, x.notes(0, 2));
        x.note(1, 0, 2, 80);
        Check.is("one", 80, x.notes(0, 2));
        x.note(3, 0, 2, 60);
        Check.is("two", 140, x.notes(0, 2));
        x.note(0, 0, 2, 70);
        Check.is("three without the lowest", 150, x.notes(0, 2));
        x.note(2, 0, 2, 99);
        Check.is("four without the lowest and the highest", 150, x.notes(0, 2));
        x.note(2, 0, 2, 50);
        Check.is("another lowest and highest", 130, x.notes(0, 2));
        Check.is("another category", 0, x.notes(0, 3));
        Check.is("another society", 0, x.notes(1, 2));
        for (int judge = 0; judge < 4; judge++) {
            x.note(judge, 1, 0, 90);
        }
        Check.is("all the same", 180, x.notes(1, 0));
        x.note(0, 1, 4, 100);
        x.note(1, 1, 4, 100);
        x.note(2, 1, 4, 100);
        Check.is("three the same", 200, x.notes(1, 4));
    }

    private static void notesWrong() {
        Floatparade x = with(0);
        Check.is("not marched", 0, x.notes(0, 0));
        Check.index("society -1", () -> x.notes(-1, 0));
        Check.index("society 1, ahead of the category", () -> x.notes(1, 5));
        Check.argument("category -1", () -> x.notes(0, -1));
        Check.argument("category 5", () -> x.notes(0, 5));
    }

    private static void penalty() {
        Floatparade x = with(0);
        run(x, 0, 0);
        Check.is("least", 1, x.penalty(0, 4, 1));
        Check.is("greatest", 2, x.penalty(0, 9, 99));
        for (int i = 3; i <= 20; i++) {
            Check.is("the same again", i, x.penalty(0, 5, 2));
        }
        Check.is("paragraph", 4, x.penaltyAt(0, 0, 0));
        Check.is("tenths", 1, x.penaltyAt(0, 0, 1));
        Check.is("appealed", 0, x.penaltyAt(0, 0, 2));
        Check.is("paragraph", 9, x.penaltyAt(0, 1, 0));
        Check.is("tenths", 99, x.penaltyAt(0, 1, 1));
        Check.is("the last one", 5, x.penaltyAt(0, 19, 0));
        Check.is("points", -100 - 36, x.about(0, 5));
        Check.is("how many", 20, x.about(0, 8));
    }

    private static void penaltyWrong() {
        Floatparade x = with(0, 0, 1);
        Check.state("not marched", () -> x.penalty(0, 4, 1));
        x.enter(0, 0);
        x.begin(0, 20, 200);
        Check.state("not ended", () -> x.penalty(0, 4, 1));
        x.march(0, 60);
        Check.index("society -1", () -> x.penalty(-1, 4, 1));
        Check.index("society 3, ahead of the paragraph", () -> x.penalty(3, 3, 1));
        Check.argument("paragraph 3", () -> x.penalty(0, 3, 1));
        Check.argument("paragraph 10", () -> x.penalty(0, 10, 1));
        Check.argument("tenths 0", () -> x.penalty(0, 4, 0));
        Check.argument("tenths 100", () -> x.penalty(0, 4, 100));
        Check.argument("tenths ahead of the march", () -> x.penalty(1, 4, 100));
        Check.state("not in it", () -> x.penalty(1, 4, 1));
        Check.state("the other league", () -> x.penalty(2, 4, 1));
        Check.is("one for the time", 1, x.about(0, 8));
        for (int i = 2; i <= 20; i++) {
            x.penalty(0, 6, 1);
        }
        Check.state("it has 20, with that for the time", () -> x.penalty(0, 4, 1));
        Check.argument("range ahead of that", () -> x.penalty(0, 4, 0));
        x.appeal(0, 3);
        Check.state("it has it, appealed away or not", () -> x.penalty(0, 4, 1));
        Check.is("how many", 20, x.about(0, 8));
    }

    private static void appeal() {
        Floatparade x = with(0, 0);
        x.enter(0, 0);
        x.begin(0, 11, 200);
        x.march(0, 60);
        x.note(0, 0, 0, 60);
        x.penalty(0, 7, 5);
        x.penalty(0, 8, 3);
        Check.is("points", 60 - 20 - 5 - 3, x.about(0, 5));
        Check.is("the second one", 60 - 20 - 3, x.appeal(0, 1));
        Check.is("it stands as appealed away", 1, x.penaltyAt(0, 1, 2));
        Check.is("the others do not", 0, x.penaltyAt(0, 2, 2));
        Check.is("its tenths are told", 5, x.penaltyAt(0, 1, 1));
        Check.is("how many", 3, x.about(0, 8));
        Check.is("that of the march", 60 - 3, x.appeal(0, 0));
        Check.is("the last one", 60, x.appeal(0, 2));
        Check.is("a new one counts", 4, x.penalty(0, 7, 5));
        Check.is("points", 55, x.about(0, 5));
    }

    private static void appealWrong() {
        Floatparade x = with(0, 0);
        run(x, 0, 0);
        Check.index("no penalty", () -> x.appeal(0, 0));
        x.penalty(0, 4, 9);
        Check.index("society -1", () -> x.appeal(-1, 0));
        Check.index("society 2", () -> x.appeal(2, 0));
        Check.index("number -1", () -> x.appeal(0, -1));
        Check.index("number 1", () -> x.appeal(0, 1));
        Check.index("number 20", () -> x.appeal(0, 20));
        Check.index("not in it", () -> x.appeal(1, 0));
        Check.is("nothing was changed", -9, x.about(0, 5));
        x.appeal(0, 0);
        Check.state("appealed away", () -> x.appeal(0, 0));
        Check.is("points", 0, x.about(0, 5));
    }

    private static void draw() {
        Floatparade x = new Floatparade();
        Check.is("0 at first", 0, x.draw(4));
        Check.is("4", 4, x.draw(1));
        Check.argument("first -1", () -> x.draw(-1));
        Check.argument("first 5", () -> x.draw(5));
        Check.is("1", 1, x.draw(0));
        Check.is("0", 0, x.draw(0));
    }

    private static void points() {
        Floatparade x = with(0);
        Check.is("not marched", 0, x.about(0, 5));
        run(x, 0, 0);
        Check.is("no notes", 0, x.about(0, 5));
        for (int category = 0; category < 5; category++) {
            for (int judge = 0; judge <= Math.min(category, 3); judge++) {
                x.note(judge, 0, category, 50 + judge + 10 * category);
            }
        }
        // 50; 60 61; 70 71 72; 80 81 82 83; 90 91 92 93
        Check.is("all categories", 50 + 121 + 143 + 163 + 183, x.about(0, 5));
        x.penalty(0, 4, 99);
        Check.is("less its penalties", 660 - 99, x.about(0, 5));
    }

    private static void about() {
        Floatparade x = with(0, 1);
        x.theme(1, 5, 1);
        x.song(1);
        x.build(1, 1, 1, 1, 1);
        x.build(1, 1, 1, 1, 2);
        run(x, 1, 1);
        x.note(0, 1, 0, 70);
        x.penalty(1, 4, 9);
        x.penalty(1, 4, 9);
        int[] due = {1, 1, 5, 0, 2, 52, 0, 1, 2};
        for (int what = 0; what <= 8; what++) {
            Check.is("about(1, " + what + ")", due[what], x.about(1, what));
        }
        int[] other = {0, 1, 0, -1, 0, 0, 0, 0, 0};
        for (int what = 0; what <= 8; what++) {
            Check.is("about(0, " + what + ")", other[what], x.about(0, what));
        }
        x.endYear();
        Check.is("money", 100, x.about(1, 6));
    }

    private static void aboutWrong() {
        Floatparade x = with(0);
        Check.index("society -1", () -> x.about(-1, 0));
        Check.index("society 1, ahead of what", () -> x.about(1, 9));
        Check.argument("what -1", () -> x.about(0, -1));
        Check.argument("what 9", () -> x.about(0, 9));
    }

    private static void penaltyAtWrong() {
        Floatparade x = with(0);
        run(x, 0, 0);
        Check.index("no penalty", () -> x.penaltyAt(0, 0, 0));
        x.penalty(0, 4, 9);
        Check.index("society -1", () -> x.penaltyAt(-1, 0, 0));
        Check.index("society 1", () -> x.penaltyAt(1, 0, 0));
        Check.index("number -1", () -> x.penaltyAt(0, -1, 0));
        Check.index("number 1, ahead of what", () -> x.penaltyAt(0, 1, 3));
        Check.argument("what -1", () -> x.penaltyAt(0, 0, -1));
        Check.argument("what 3", () -> x.penaltyAt(0, 0, 3));
    }

    private static void doubted() {
        Floatparade x = with(0, 0);
        run(x, 0, 0, 1);
        Check.is("no notes", false, x.isDoubted(0, 0));
        for (int category = 0; category < 3; category++) {
            Check.is("not in three categories", false, x.isDoubted(0, 0));
            x.note(1, 0, category, 60);
            x.note(2, 0, category, 61);
            x.note(0, 0, category, 75);
        }
        Check.is("15 above the mean of 60 and 61, rounded down", true, x.isDoubted(0, 0));
        Check.is("another judge", false, x.isDoubted(1, 0));
        Check.is("a judge without notes", false, x.isDoubted(3, 0));
        Check.is("about another society", false, x.isDoubted(0, 1));
        x.note(0, 0, 2, 74);
        Check.is("14 above it", false, x.isDoubted(0, 0));
        x.note(0, 0, 4, 100);
        Check.is("without others there", false, x.isDoubted(0, 0));
        x.note(3, 0, 4, 85);
        Check.is("15 above one other there", true, x.isDoubted(0, 0));
        x.note(3, 0, 4, 86);
        Check.is("14 above it", false, x.isDoubted(0, 0));
        x.note(1, 0, 2, 59);
        Check.is("15 above the mean of 59 and 61 is 75", false, x.isDoubted(0, 0));
        x.note(3, 0, 2, 50);
        Check.is("59 61 50: the mean is 56", true, x.isDoubted(0, 0));
        Check.is("the doubted one counts all the same", 74 + 61 + 59 + 50 - 74 - 50, x.notes(0, 2));
        for (int category = 0; category < 3; category++) {
            x.note(2, 1, category, 90);
            x.note(0, 1, category, 75);
        }
        Check.is("15 above the judge 0 alone", true, x.isDoubted(2, 1));
        x.note(0, 1, 1, 76);
        Check.is("14 above it in one", false, x.isDoubted(2, 1));
        x.note(3, 1, 1, 73);
        Check.is("15 above the mean of 76 and 73", false, x.isDoubted(3, 1));
        Check.is("15 above the mean of 76 and 73", true, x.isDoubted(2, 1));
    }

    private static void doubtedWrong() {
        Floatparade x = with(0);
        Check.index("society -1", () -> x.isDoubted(0, -1));
        Check.index("society 1, ahead of the judge", () -> x.isDoubted(4, 1));
        Check.argument("judge -1", () -> x.isDoubted(-1, 0));
        Check.argument("judge 4", () -> x.isDoubted(4, 0));
        Check.is("not marched", false, x.isDoubted(3, 0));
    }

    private static void table() {
        Floatparade x = with(0, 0, 1, 0, 0);
        x.enter(0, 0);
        x.enter(1, 0);
        x.enter(3, 0);
        isTable(x, 0);
        x.begin(0, 1, 200);
        isTable(x, 0);
        x.march(0, 60);
        isTable(x, 0, 0, 1, 3);
        x.note(0, 3, 2, 80);
        isTable(x, 0, 3, 0, 1);
        x.note(0, 1, 4, 81);
        isTable(x, 0, 1, 3, 0);
        x.penalty(1, 4, 2);
        isTable(x, 0, 3, 1, 0);
        x.appeal(1, 0);
        isTable(x, 0, 1, 3, 0);
        x.penalty(3, 4, 99);
        isTable(x, 0, 1, 0, 3);
        isTable(x, 1);
        run(x, 1, 2);
        isTable(x, 1, 2);
        x.endYear();
        isTable(x, 0);
        isTable(x, 1);
    }

    private static void tableTies() {
        Floatparade x = with(0, 0, 0);
        run(x, 0, 0, 1, 2);
        x.note(0, 0, 0, 80);
        x.note(0, 0, 1, 70);
        x.note(0, 1, 0, 70);
        x.note(0, 1, 1, 80);
        x.note(0, 2, 2, 75);
        x.note(0, 2, 4, 75);
        // all have 150: 80 70 0 0 0, 70 80 0 0 0, 0 0 75 0 75
        isTable(x, 0, 0, 1, 2);
        x.draw(1);
        isTable(x, 0, 1, 0, 2);
        x.draw(2);
        isTable(x, 0, 2, 0, 1);
        x.draw(3);
        isTable(x, 0, 2, 0, 1);
        x.draw(4);
        isTable(x, 0, 2, 0, 1);
        x.draw(0);
        isTable(x, 0, 0, 1, 2);
        x.note(0, 1, 0, 80);
        x.note(0, 1, 1, 70);
        isTable(x, 0, 0, 1, 2);
        x.draw(4);
        isTable(x, 0, 2, 0, 1);

        Floatparade y = with(0, 0);
        run(y, 0, 0, 1);
        y.note(0, 0, 0, 60);
        y.note(1, 0, 0, 60);
        y.note(2, 0, 0, 60);
        y.note(0, 0, 1, 60);
        y.note(0, 1, 0, 90);
        y.note(1, 1, 0, 90);
        // 120 as they count, of three, and 60, of the 180 of the other one
        isTable(y, 0, 1, 0);
        y.draw(1);
        isTable(y, 0, 0, 1);
    }

    private static void tableWrong() {
        Floatparade x = with(0);
        Check.index("place -1", () -> x.table(0, -1));
        Check.index("place ahead of the league", () -> x.table(2, -1));
        Check.argument("league -1", () -> x.table(-1, 0));
        Check.argument("league 2", () -> x.table(2, 0));
        run(x, 0, 0);
        Check.index("place -1", () -> x.table(0, -1));
        Check.is("far behind", -1, x.table(0, Integer.MAX_VALUE));
    }

    private static void endYearWrong() {
        Floatparade x = with(0, 1);
        Check.state("no march", () -> x.endYear());
        x.enter(0, 0);
        Check.state("none begun", () -> x.endYear());
        x.begin(0, 1, 200);
        Check.state("one goes on", () -> x.endYear());
        x.march(0, 60);
        x.enter(1, 0);
        x.begin(1, 1, 200);
        Check.state("one has ended, the other one goes on", () -> x.endYear());
        Check.is("nothing was changed", 1, x.about(0, 7));
        Check.is("no money", 0, x.about(0, 6));
        x.march(1, 60);
        Check.is("both have ended", 1, x.endYear());
        Check.state("a new year", () -> x.endYear());
        Check.is("money once", 100, x.about(0, 6));
    }

    private static void grants() {
        Floatparade x = with(0, 0, 0, 0, 1, 1);
        run(x, 0, 0, 2, 3);
        x.note(0, 2, 0, 60);
        x.note(0, 3, 0, 70);
        x.enter(4, 0);
        Check.is("the league 1 has not marched", -1, x.endYear());
        int[] due = {100, 0, 200, 300, 0, 0};
        for (int i = 0; i < due.length; i++) {
            Check.is("money of " + i, due[i], x.about(i, 6));
            Check.is("league of " + i, i < 4 ? 0 : 1, x.about(i, 0));
            Check.is("entered " + i, 0, x.about(i, 7));
        }
        run(x, 1, 4, 5);
        run(x, 0, 1, 3);
        x.draw(3);
        Check.is("4 comes up", 4, x.endYear());
        int[] next = {100, 200, 200, 400, 200, 100};
        for (int i = 0; i < next.length; i++) {
            Check.is("money of " + i, next[i], x.about(i, 6));
        }
        Check.is("3 was last", 1, x.about(3, 0));
        Check.is("4 was first", 0, x.about(4, 0));
        Check.is("draws stay", 3, x.draw(3));
    }

    private static void exchange() {
        Floatparade x = with(1, 1, 0, 0);
        run(x, 0, 2, 3);
        run(x, 1, 0, 1);
        x.note(0, 1, 0, 60);
        x.note(0, 3, 0, 60);
        Check.is("1 comes up", 1, x.endYear());
        int[] leagues = {1, 0, 1, 0};
        for (int i = 0; i < leagues.length; i++) {
            Check.is("league of " + i, leagues[i], x.about(i, 0));
            Check.is("money of " + i, i % 2 == 1 ? 200 : 100, x.about(i, 6));
        }
        run(x, 0, 1, 3);
        run(x, 1, 0, 2);
        x.draw(2);
        x.note(0, 1, 2, 70);
        x.note(0, 1, 3, 60);
        x.note(0, 3, 2, 60);
        x.note(0, 3, 3, 70);
        Check.is("0 comes up, by its number", 0, x.endYear());
        Check.is("3 goes down, by the category 2", 1, x.about(3, 0));
        Check.is("1 stays", 0, x.about(1, 0));
    }

    private static void exchangeOfOnlyOnes() {
        Floatparade x = with(0, 1);
        run(x, 0, 0);
        run(x, 1, 1);
        Check.is("1 comes up", 1, x.endYear());
        Check.is("0 was the last one, and the first", 1, x.about(0, 0));
        x.enter(0, 0);
        x.enter(1, 0);
        Check.is("order", 1, x.order(0, 0));
        Check.is("order", 0, x.order(1, 0));
        x.society(0, 1);
        x.enter(2, 99);
        Check.is("1 came up: it is first", 1, x.order(0, 0));
    }

    private static void whatIsGone() {
        Floatparade x = with(0, 0, 1);
        x.feud(0, 1, true);
        x.jury(1, true);
        x.theme(0, 7, 1);
        x.theme(2, 4095 - 7, 1);
        x.song(0);
        x.song(0);
        x.vote(0, 0, 9);
        x.round(0);
        x.song(2);
        x.song(2);
        x.vote(2, 0, 9);
        x.build(0, 1, 1, 1, 1);
        x.enter(0, 77);
        x.begin(0, 200, 200);
        x.march(0, 60);
        x.note(0, 0, 0, 50);
        x.appeal(0, 0);
        x.penalty(0, 4, 1);
        Check.is("none comes up", -1, x.endYear());
        int[] due = {0, 1, 0, -1, 0, 0, 100, 0, 0};
        for (int what = 0; what <= 8; what++) {
            Check.is("about(0, " + what + ")", due[what], x.about(0, what));
        }
        Check.is("themes of all are gone", 0, x.about(2, 2));
        Check.is("songs of all are gone", -1, x.about(2, 3));
        Check.is("notes", 0, x.notes(0, 0));
        Check.index("penalties", () -> x.penaltyAt(0, 0, 0));
        Check.index("songs", () -> x.vote(0, 0, 1));
        Check.index("floats", () -> x.fits(0, 0));
        Check.is("order", -1, x.order(0, 0));
        Check.state("march", () -> x.part(0, 0, 0));
        Check.is("theme, anew", 0, x.theme(1, 7, 99));
        Check.is("songs, anew", 0, x.song(0));
        Check.is("songs, anew", 1, x.song(0));
        Check.is("votes, anew", 1, x.vote(0, 0, 1));
        Check.is("none is struck out", 1, x.round(0));
        x.song(2);
        x.song(2);
        Check.is("votes, anew, where no round was ended", 1, x.vote(2, 0, 1));
        Check.is("feuds stay", true, x.feud(1, 0, true));
        Check.is("juries stay", true, x.jury(1, true));
        Check.state("streets stay", () -> x.street(1, 0, 1, 3, 2, 1));
        Check.is("floats, anew", 0, x.build(0, 1, 1, 1, 1));
        Check.is("routes stay", true, x.fits(0, 0));
        run(x, 0, 0);
        Check.is("notes, anew", -1, x.note(0, 0, 0, 60));
        Check.is("penalties, anew", 1, x.penalty(0, 9, 3));
        Check.is("not appealed", 0, x.penaltyAt(0, 0, 2));
        Check.is("points", 57, x.about(0, 5));
        x.endYear();
        Check.is("money stays", 200, x.about(0, 6));
    }
}
