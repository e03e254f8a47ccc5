/** Promises 15 to 17: enter, change, order. */
public final class OrderTest {
    public static void main(String[] args) {
        enter();
        enterWrong();
        lots();
        boundPlaces();
        firstAheadOfTheLotZero();
        boundAfterYearsWithout();
        feuds();
        feudsOfBoundOnes();
        change();
        changeFeuds();
        changeWrong();
        orderWrong();
        Check.finish("OrderTest");
    }

    /** A street between the corners 0 and 1, which is the route of both leagues; the societies as told. */
    private static Floatparade with(int... leagues) {
        Floatparade x = new Floatparade();
        x.street(0, 1, 2, 10, 10, 50);
        for (int league = 0; league < 2; league++) {
            x.route(league, 0);
            x.goOn(league, 1);
        }
        for (int league : leagues) {
            x.society(league, 1);
        }
        return x;
    }

    private static void isOrder(Floatparade x, int league, int... due) {
        for (int i = 0; i < due.length; i++) {
            Check.is("order(" + league + ", " + i + ")", due[i], x.order(league, i));
        }
        Check.is("order, behind the last", -1, x.order(league, due.length));
    }

    private static void run(Floatparade x, int league, int... societies) {
        for (int society : societies) {
            x.enter(society, 0);
        }
        x.begin(league, 1, 200);
        x.march(league, 60);
    }

    private static void enter() {
        Floatparade x = with(0, 1, 0, 1, 0);
        x.build(0, 8, 9, 50, 20);
        Check.is("the first", 1, x.enter(0, 0));
        Check.is("entered", 1, x.about(0, 7));
        Check.is("not entered", 0, x.about(2, 7));
        Check.is("the first of the other league", 1, x.enter(1, 99));
        Check.is("the second", 2, x.enter(2, 99));
        Check.is("the third", 3, x.enter(4, 50));
        isOrder(x, 0, 0, 4, 2);
        isOrder(x, 1, 1);
    }

    private static void enterWrong() {
        Floatparade x = new Floatparade();
        x.society(0, 1);
        x.society(0, 1);
        x.society(1, 1);
        x.street(0, 1, 2, 10, 10, 50);
        Check.state("no route", () -> x.enter(0, 0));
        x.route(0, 0);
        Check.state("no street in it", () -> x.enter(0, 0));
        x.goOn(0, 1);
        Check.index("society -1", () -> x.enter(-1, 0));
        Check.index("society 3, ahead of the lot", () -> x.enter(3, 100));
        Check.argument("lot -1", () -> x.enter(0, -1));
        Check.argument("lot 100", () -> x.enter(0, 100));
        Check.state("the route of the other league has none", () -> x.enter(2, 0));
        x.build(0, 1, 1, 1, 1);
        x.build(0, 1, 10, 1, 1);
        Check.state("the second float does not fit", () -> x.enter(0, 0));
        x.build(1, 9, 1, 1, 1);
        x.build(1, 1, 1, 1, 1);
        Check.state("the first float does not fit", () -> x.enter(1, 0));
        x.cut(1, 0, 8, 1, 1, 1);
        Check.is("not entered", 0, x.about(0, 7));
        x.cut(0, 1, 1, 9, 1, 1);
        Check.is("cut down, it does", 1, x.enter(0, 5));
        Check.state("it has entered", () -> x.enter(0, 6));
        Check.argument("the lot ahead of that", () -> x.enter(0, 100));
        x.begin(0, 1, 200);
        Check.state("the march has begun", () -> x.enter(1, 0));
        x.march(0, 60);
        Check.state("it has ended", () -> x.enter(1, 0));
        isOrder(x, 0, 0);
        x.endYear();
        Check.is("a new year", 1, x.enter(1, 0));
    }

    private static void lots() {
        Floatparade x = with(0, 0, 0, 0, 0);
        x.enter(4, 7);
        isOrder(x, 0, 4);
        x.enter(3, 7);
        isOrder(x, 0, 3, 4);
        x.enter(0, 99);
        isOrder(x, 0, 3, 4, 0);
        x.enter(1, 0);
        isOrder(x, 0, 1, 3, 4, 0);
        x.enter(2, 7);
        isOrder(x, 0, 1, 2, 3, 4, 0);
    }

    private static void boundPlaces() {
        Floatparade x = with(0, 0, 1, 1, 0, 1);
        for (int i = 0; i < 4; i++) {
            x.enter(i, 0);
        }
        run(x, 0);
        run(x, 1);
        // tables 0 1 and 2 3, by their numbers
        Check.is("2 comes up", 2, x.endYear());
        Check.is("league of 2", 0, x.about(2, 0));
        Check.is("league of 1", 1, x.about(1, 0));
        x.enter(0, 0);
        isOrder(x, 0, 0);
        x.enter(4, 50);
        isOrder(x, 0, 4, 0);
        x.enter(2, 99);
        isOrder(x, 0, 2, 4, 0);
        x.society(0, 1);
        x.enter(6, 99);
        isOrder(x, 0, 2, 4, 6, 0);
        x.enter(3, 99);
        x.enter(1, 99);
        isOrder(x, 1, 1, 3);
        x.enter(5, 98);
        isOrder(x, 1, 5, 1, 3);
    }

    private static void firstAheadOfTheLotZero() {
        Floatparade x = with(0, 0, 0, 1);
        run(x, 0, 2, 0);
        x.penalty(0, 4, 1);
        run(x, 1, 3);
        Check.is("3 comes up, 0 goes down", 3, x.endYear());
        x.enter(1, 0);
        x.enter(3, 99);
        x.enter(2, 0);
        isOrder(x, 0, 3, 1, 2);
    }

    private static void boundAfterYearsWithout() {
        Floatparade x = with(0, 0, 1, 1, 0);
        for (int i = 0; i < 4; i++) {
            x.enter(i, 0);
        }
        run(x, 0);
        run(x, 1);
        x.endYear();
        // now 0, 2, 4 in the league 0, and 1, 3 in the league 1, which marches alone
        x.enter(1, 0);
        x.enter(3, 0);
        x.enter(0, 0);
        run(x, 1);
        x.penalty(1, 4, 1);
        Check.is("none comes up", -1, x.endYear());
        x.enter(0, 0);
        x.enter(4, 50);
        x.enter(2, 60);
        isOrder(x, 0, 4, 2, 0);
        x.enter(3, 0);
        x.enter(1, 90);
        isOrder(x, 1, 1, 3);
    }

    private static void feuds() {
        Floatparade x = with(0, 0, 0, 0);
        x.feud(0, 1, true);
        x.enter(0, 0);
        x.enter(1, 1);
        isOrder(x, 0, 0, 1);
        x.enter(2, 2);
        isOrder(x, 0, 0, 2, 1);
        x.enter(3, 3);
        isOrder(x, 0, 0, 2, 1, 3);

        Floatparade y = with(0, 0, 0, 0);
        y.feud(1, 2, true);
        y.enter(0, 0);
        y.enter(1, 1);
        y.enter(2, 2);
        isOrder(y, 0, 1, 0, 2);
        y.feud(2, 3, true);
        y.enter(3, 3);
        // 0 1 2 3; then 0 1 3 2 and, as there is none behind 2, 0 3 1 2, by turns, ten times in all
        isOrder(y, 0, 0, 3, 1, 2);

        Floatparade z = with(0, 0, 0);
        z.feud(0, 1, true);
        z.feud(0, 2, true);
        z.enter(0, 0);
        z.enter(1, 1);
        z.enter(2, 2);
        // ten times, and no eleventh time
        isOrder(z, 0, 0, 1, 2);
        z.feud(0, 1, false);
        isOrder(z, 0, 0, 1, 2);
    }

    private static void feudsOfBoundOnes() {
        Floatparade x = with(0, 0, 1, 0);
        x.enter(0, 0);
        x.enter(1, 0);
        x.enter(2, 0);
        run(x, 0);
        run(x, 1);
        Check.is("2 comes up", 2, x.endYear());
        x.enter(2, 0);
        x.enter(3, 0);
        x.feud(3, 0, true);
        x.enter(0, 0);
        // 2 3 0, with none behind 0
        isOrder(x, 0, 3, 2, 0);
    }

    private static void change() {
        Floatparade x = with(0, 0, 0, 0, 1);
        for (int i = 0; i < 4; i++) {
            x.enter(i, i);
        }
        Check.is("far ones", true, x.change(3, 0));
        isOrder(x, 0, 3, 1, 2, 0);
        Check.is("neighbours", true, x.change(1, 2));
        isOrder(x, 0, 3, 2, 1, 0);
        Check.is("and back", true, x.change(1, 2));
        isOrder(x, 0, 3, 1, 2, 0);
        x.society(0, 1);
        x.enter(5, 0);
        isOrder(x, 0, 0, 5, 1, 2, 3);
    }

    private static void changeFeuds() {
        Floatparade x = with(0, 0, 0, 0, 0);
        for (int i = 0; i < 5; i++) {
            x.enter(i, i);
        }
        x.feud(0, 3, true);
        Check.is("0 would be ahead of 3", false, x.change(0, 2));
        isOrder(x, 0, 0, 1, 2, 3, 4);
        Check.is("3 would be behind 0", false, x.change(3, 1));
        isOrder(x, 0, 0, 1, 2, 3, 4);
        Check.is("0 would be behind 3", false, x.change(0, 4));
        isOrder(x, 0, 0, 1, 2, 3, 4);
        Check.is("they are no neighbours then", true, x.change(0, 3));
        isOrder(x, 0, 3, 1, 2, 0, 4);
        x.feud(1, 2, true);
        Check.is("neighbours with a feud were so ahead of it", true, x.change(1, 2));
        isOrder(x, 0, 3, 2, 1, 0, 4);
        Check.is("3 would be behind 0", false, x.change(3, 4));
        isOrder(x, 0, 3, 2, 1, 0, 4);
        Check.is("others, and 1 and 2 stay so", true, x.change(0, 4));
        isOrder(x, 0, 3, 2, 1, 4, 0);
        x.feud(4, 0, true);
        Check.is("no feud is told by neighbours then", true, x.change(1, 4));
        isOrder(x, 0, 3, 2, 4, 1, 0);
        Check.is("back would make two", false, x.change(4, 1));
        isOrder(x, 0, 3, 2, 4, 1, 0);
        Check.is("the ends", true, x.change(3, 0));
        isOrder(x, 0, 0, 2, 4, 1, 3);
    }

    private static void changeWrong() {
        Floatparade x = with(0, 0, 1, 0);
        x.enter(0, 0);
        x.enter(1, 1);
        x.enter(2, 2);
        Check.index("one -1", () -> x.change(-1, 0));
        Check.index("one 4", () -> x.change(4, 0));
        Check.index("other -1", () -> x.change(0, -1));
        Check.index("other 4", () -> x.change(0, 4));
        Check.index("none, the same", () -> x.change(4, 4));
        Check.argument("the same", () -> x.change(0, 0));
        Check.argument("the same, not entered", () -> x.change(3, 3));
        Check.state("one has not entered", () -> x.change(3, 0));
        Check.state("other has not entered", () -> x.change(0, 3));
        Check.state("unlike leagues", () -> x.change(0, 2));
        isOrder(x, 0, 0, 1);
        x.begin(0, 1, 200);
        Check.state("the march has begun", () -> x.change(0, 1));
        x.march(0, 60);
        Check.state("the march has ended", () -> x.change(0, 1));
        isOrder(x, 0, 0, 1);
        x.endYear();
        isOrder(x, 0);
    }

    private static void orderWrong() {
        Floatparade x = with(0);
        x.enter(0, 0);
        Check.index("place -1", () -> x.order(0, -1));
        Check.index("place ahead of the league", () -> x.order(2, Integer.MIN_VALUE));
        Check.argument("league -1", () -> x.order(-1, 0));
        Check.argument("league 2", () -> x.order(2, 0));
        Check.is("far behind", -1, x.order(0, Integer.MAX_VALUE));
        Check.is("the place 10", -1, x.order(0, 10));
        Check.is("the other league", -1, x.order(1, 0));
    }
}
