import java.util.function.Supplier;

    /**
     * Promises 25 to 34, and what the terms say of notes, tables and the end of a year: the edges, sentence by
     * sentence.
     */
public final class EdgesOfNotesTest {
    public static void main(String[] args) throws IllegalAccessException {
        Check.all(EdgesOfNotesTest.class);
    }

    /** So many societies of the league 0, whose march has ended, without penalties. */
    private static Floatparade marched(int count) {
        Floatparade x = City.ofStreets(2);
        for (int i = 0; i < count; i++) {
            City.enters(x, 1);
        }
        x.begin(0, 1, 200);
        City.toTheEnd(x, 0);
        return x;
    }

    /**
     * Gives the societies 0 and 1 the same points, the same notes in as many categories as told, from the first one on,
     * in the next one the better society the greater note, and in all behind that the other one.
     */
    static void tie(Floatparade x, int first, int place, int better) {
        int other = 1 - better;
        for (int i = 0; i < 5; i++) {
            int category = (first + i) % 5;
            x.note(0, better, category, i == place ? 61 : 60);
            x.note(0, other, category, i > place ? 61 : 60);
        }
        x.penalty(better, 4, 1);
        if (place < 4) {
            x.penalty(other, 4, 4 - place);
        }
        Check.is("the same points", x.about(0, 5), x.about(1, 5));
    }

    // ---- promise 25: note

    /** Promise 25: "judge: 0 to 3" Terms: "There are the categories 0 to 4, and the judges 0 to 3." */
    static void judgeOfANote() {
        Refused.argumentBeyond("judge", 0, 3, City::judged, (x, judge) -> x.note(judge, 0, 1, 70));
    }

    /** Promise 25: "category: 0 to 4" */
    static void categoryOfANote() {
        Refused.argumentBeyond("category", 0, 4, City::judged, (x, category) -> x.note(1, 0, category, 70));
    }

    /** Promise 25: "note: 50 to 100" Terms: "50 to 100 tenths," */
    static void noteOfANote() {
        Refused.argumentBeyond("note", 50, 100, City::judged, (x, note) -> x.note(1, 0, 0, note));
        for (int note : new int[] {50, 100}) {
            Floatparade x = marched(1);
            x.note(0, 0, 0, note);
            Check.is("it counts", note, x.notes(0, 0));
        }
    }

    /** Promise 25: "society: a society" "Throws IndexOutOfBoundsException if there is no such society" */
    static void societyOfANote() {
        Refused.indexBeyond("society", 0, 9, () -> marched(10), (x, society) -> x.note(0, society, 0, 70));
        Refused.index("the next one", City::judged, x -> x.note(0, 5, 0, 70));
        Refused.index("none is there yet", City::empty, x -> x.note(0, 0, 0, 70));
    }

    /** Promise 25: "Throws IllegalStateException if its march has not ended, or it was not in it" */
    static void noteIsBound() {
        Refused.state("not entered", City::preparing, x -> x.note(0, 0, 0, 70));
        Refused.state("not begun", City::entered, x -> x.note(0, 0, 0, 70));
        Refused.state("not ended", City::marching, x -> x.note(0, 0, 0, 70));
        Refused.state("not in it, league 0", City::judged, x -> x.note(0, 3, 0, 70));
        Refused.state("not in it, league 1", City::judged, x -> x.note(0, 4, 0, 70));
        Floatparade x = City.ofLeagues(0, 1);
        City.run(x, 0, 0);
        x.enter(1, 0);
        Check.state("the march of the other league has ended", () -> x.note(0, 1, 0, 70));
        x.begin(1, 1, 200);
        Check.state("its own one goes on", () -> x.note(0, 1, 0, 70));
        City.toTheEnd(x, 1);
        Check.is("it has ended", -1, x.note(0, 1, 0, 70));
        x.endYear();
        Check.state("a new year", () -> x.note(0, 0, 0, 70));
    }

    /** Promise 25: "Throws IllegalArgumentException if judge, category or note is out of range": ahead of the state. */
    static void whichOfANote() {
        Refused.index("no society, no judge", City::judged, x -> x.note(4, 5, 0, 70));
        Refused.index("no society, no category", City::judged, x -> x.note(0, -1, 5, 70));
        Refused.index("no society, no note", City::preparing, x -> x.note(0, 5, 0, 49));
        Refused.argument("no judge, not in it", City::judged, x -> x.note(4, 3, 0, 70));
        Refused.argument("no category, not ended", City::marching, x -> x.note(0, 0, -1, 70));
        Refused.argument("no note, not entered", City::preparing, x -> x.note(0, 0, 0, 101));
    }

    /**
     * Promise 25: "Gives a note." "Returns the note before; NONE if there was none." Terms: "A judge gives a society a
     * note in a category," "the latest counting." Each judge in each category of each society.
     */
    static void noteBefore() {
        Floatparade x = marched(2);
        for (int row = 0; row < 3; row++) {
            for (int i = 0; i < 40; i++) {
                int before = row == 0 ? -1 : 50 + i + row - 1;
                Check.is("note before", before, x.note(i % 4, i / 20, i / 4 % 5, 50 + i + row));
            }
        }
        Floatparade y = marched(1);
        y.note(2, 0, 3, 100);
        y.note(2, 0, 3, 50);
        Check.is("the latest", 50, y.notes(0, 3));
        Check.is("the latest", 50, y.about(0, 5));
    }

    // ---- promise 26: penalty

    /** Promise 26: "society: a society" "Throws IndexOutOfBoundsException if there is no such society" */
    static void societyOfAPenalty() {
        Refused.indexBeyond("society", 0, 9, () -> marched(10), (x, society) -> x.penalty(society, 4, 5));
        Refused.index("the next one", City::judged, x -> x.penalty(5, 4, 5));
        Refused.index("none is there yet", City::empty, x -> x.penalty(0, 4, 5));
    }

    /** Promise 26: "paragraph: 4 to 9" Terms: "By hand come penalties by the paragraphs 4 to 9." */
    static void paragraphOfAPenalty() {
        Refused.argumentBeyond("paragraph", 4, 9, City::judged, (x, paragraph) -> x.penalty(0, paragraph, 5));
        Floatparade x = marched(1);
        for (int paragraph = 4; paragraph <= 9; paragraph++) {
            Check.is("how many", paragraph - 3, x.penalty(0, paragraph, 5));
            Check.is("paragraph", paragraph, x.penaltyAt(0, paragraph - 4, 0));
        }
    }

    /** Promise 26: "tenths: 1 to 99" */
    static void tenthsOfAPenalty() {
        Refused.argumentBeyond("tenths", 1, 99, City::judged, (x, tenths) -> x.penalty(0, 4, tenths));
        for (int tenths : new int[] {1, 99}) {
            Floatparade x = marched(1);
            x.penalty(0, 4, tenths);
            Check.is("tenths", tenths, x.penaltyAt(0, 0, 1));
            Check.is("points", -tenths, x.about(0, 5));
        }
    }

    private static Floatparade withPenalties(int count) {
        Floatparade x = marched(2);
        for (int i = 0; i < count; i++) {
            x.penalty(0, 4 + i % 6, 1 + i);
        }
        return x;
    }

    /** Promise 26: "Gives a penalty by hand." "Returns how many penalties it has then." From none to 20 of them. */
    static void penaltiesFromNoneTo20() {
        Floatparade x = withPenalties(0);
        int points = 0;
        for (int i = 0; i < 20; i++) {
            int number = i;
            Check.is("how many", i, x.about(0, 8));
            Check.index("not yet " + i, () -> x.penaltyAt(0, number, 0));
            Check.is("how many then", i + 1, x.penalty(0, 4 + i % 6, 1 + i));
            points -= 1 + i;
            Check.is("points", points, x.about(0, 5));
        }
        Check.is("of another society", 1, x.penalty(1, 4, 1));
    }

    /** Promise 26: "or it has 20" With those of the march, and with those that were appealed away. */
    static void penaltiesAreFull() {
        Check.is("the twentieth", 20, withPenalties(19).penalty(0, 4, 1));
        Refused.state("one more", () -> withPenalties(20), x -> x.penalty(0, 4, 1));
        Supplier<Floatparade> appealed = () -> {
            Floatparade x = withPenalties(20);
            x.appeal(0, 19);
            x.appeal(0, 0);
            return x;
        };
        Refused.state("two are appealed away", appealed, x -> x.penalty(0, 4, 1));
        Supplier<Floatparade> ofTheMarch = () -> {
            Floatparade x = City.afterMarchOf(1, 5, 200);
            for (int i = 0; i < 19; i++) {
                x.penalty(0, 4, 1);
            }
            return x;
        };
        Refused.state("one of the march", ofTheMarch, x -> x.penalty(0, 4, 1));
        Check.is("it is one of them", 1, ofTheMarch.get().penaltyAt(0, 0, 0));
    }

    /** Promise 26: "Throws IllegalStateException if its march has not ended, it was not in it," */
    static void penaltyIsBound() {
        Refused.state("not entered", City::preparing, x -> x.penalty(0, 4, 5));
        Refused.state("not begun", City::entered, x -> x.penalty(0, 4, 5));
        Refused.state("not ended", City::marching, x -> x.penalty(0, 4, 5));
        Refused.state("not in it, league 0", City::judged, x -> x.penalty(3, 4, 5));
        Refused.state("not in it, league 1", City::judged, x -> x.penalty(4, 4, 5));
        Floatparade x = City.ofLeagues(0, 1);
        City.run(x, 0, 0);
        x.enter(1, 0);
        x.begin(1, 1, 200);
        Check.state("the march of the other league has ended", () -> x.penalty(1, 4, 5));
    }

    /** Promise 26: "Throws IllegalArgumentException if paragraph or tenths is out of range": ahead of the state. */
    static void whichOfAPenalty() {
        Refused.index("no society, no paragraph", City::judged, x -> x.penalty(5, 3, 5));
        Refused.index("no society, no tenths", City::preparing, x -> x.penalty(-1, 4, 100));
        Refused.argument("no paragraph, and 20", () -> withPenalties(20), x -> x.penalty(0, 10, 5));
        Refused.argument("no tenths, not in it", City::judged, x -> x.penalty(3, 4, 0));
        Refused.argument("no paragraph, not ended", City::marching, x -> x.penalty(0, 3, 5));
    }

    // ---- promise 27: appeal

    /**
     * Promise 27: "society: a society" "number: of the penalty, from 0"
     * "Throws IndexOutOfBoundsException if there is no such society or penalty"
     */
    static void penaltyOfAnAppeal() {
        Refused.indexBeyond("number", 0, 19, () -> withPenalties(20), (x, number) -> x.appeal(0, number));
        Refused.indexBeyond("number", 0, 0, () -> withPenalties(1), (x, number) -> x.appeal(0, number));
        Refused.index("no penalty", () -> withPenalties(0), x -> x.appeal(0, 0));
        Refused.index("another society has none", () -> withPenalties(20), x -> x.appeal(1, 0));
        Refused.index("society -1", City::judged, x -> x.appeal(-1, 0));
        Refused.index("society 5", City::judged, x -> x.appeal(5, 0));
        Refused.index("not in it", City::judged, x -> x.appeal(3, 0));
        Refused.index("no society", City::empty, x -> x.appeal(0, 0));
        Refused.index("the march goes on", City::marching, x -> x.appeal(0, 0));
    }

    /** Promise 27: "Throws IllegalStateException if it was appealed away" That one alone. */
    static void appealTwice() {
        Supplier<Floatparade> city = () -> {
            Floatparade x = withPenalties(3);
            x.appeal(0, 1);
            return x;
        };
        Refused.state("1 was", city, x -> x.appeal(0, 1));
        Check.is("0 was not", -3, city.get().appeal(0, 0));
        Check.is("2 was not", -1, city.get().appeal(0, 2));
        Refused.index("the next one was not, for there is none", city, x -> x.appeal(0, 3));
    }

    /**
     * Promise 27: "Appeals a penalty away." "Returns its points then."
     * Terms: "Its points: all categories, less its penalties that were not appealed away." From 20 penalties to none.
     */
    static void pointsByAppeals() {
        Floatparade x = withPenalties(20);
        x.note(0, 0, 2, 50);
        int points = 50 - 210;
        Check.is("points", points, x.about(0, 5));
        for (int i = 19; i >= 0; i--) {
            points += 1 + i;
            Check.is("without the penalty " + i, points, x.appeal(0, i));
            Check.is("points", points, x.about(0, 5));
            Check.is("appealed away", 1, x.penaltyAt(0, i, 2));
        }
        Check.is("all are left as they were", 20, x.about(0, 8));
        Check.is("none counts", 50, x.about(0, 5));
        Floatparade y = City.afterMarchOf(1, 3, 200);
        Check.is("that of the march", -4, y.about(0, 5));
        Check.is("appealed away", 0, y.appeal(0, 0));
    }

    // ---- promise 28: draw

    /** Promise 28: "first: 0 to 4;" "Throws IllegalArgumentException if first is out of range" */
    static void firstOfADraw() {
        Refused.argumentBeyond("first", 0, 4, City::judged, (x, first) -> x.draw(first));
        Refused.argumentBeyond("first", 0, 4, City::empty, (x, first) -> x.draw(first));
    }

    /** Promise 28: "Draws the order of categories by which ties are broken." "Returns which was first." */
    static void firstBefore() {
        Floatparade x = new Floatparade();
        int before = 0;
        for (int first : new int[] {4, 0, 1, 2, 3, 3, 4}) {
            Check.is("first before", before, x.draw(first));
            before = first;
        }
    }

    /**
     * Promise 28: "the others follow by rising numbers, behind 4 comes 0" Terms: "of the same by the notes of the
     * category that is drawn first, and so on by the order of categories;"
     */
    static void tiesByEachDraw() {
        for (int first = 0; first < 5; first++) {
            for (int place = 0; place < 5; place++) {
                for (int better = 0; better < 2; better++) {
                    Floatparade x = marched(2);
                    x.draw(first);
                    tie(x, first, place, better);
                    Check.is("drawn " + first + ", unlike at " + place, better, x.table(0, 0));
                    Check.is("drawn " + first + ", unlike at " + place, 1 - better, x.table(0, 1));
                }
            }
        }
    }

    // ---- promise 29: endYear

    /** Promise 29: "Throws IllegalStateException if a march goes on, or none has ended" */
    static void endIsBound() {
        Refused.state("no society", City::empty, Floatparade::endYear);
        Refused.state("none has entered", City::preparing, Floatparade::endYear);
        Refused.state("none has begun", City::entered, Floatparade::endYear);
        Refused.state("both go on", City::marching, Floatparade::endYear);
        for (int league = 0; league < 2; league++) {
            int ended = league;
            Supplier<Floatparade> city = () -> {
                Floatparade x = City.marching();
                City.toTheEnd(x, ended);
                return x;
            };
            Refused.state("one goes on, one has ended: " + league, city, Floatparade::endYear);
        }
        Check.is("both have ended", 2, City.judged().endYear());
        for (int league = 0; league < 2; league++) {
            Floatparade x = City.ofLeagues(0, 1);
            x.enter(1 - league, 0);
            City.run(x, league, league);
            Check.is("one has ended, the other one has not begun: " + league, -1, x.endYear());
            Check.state("a new year", x::endYear);
        }
    }

    /** Promise 29: "Ends the year." "Returns which society came up; NONE if none did." */
    static void whoCameUp() {
        Floatparade x = City.ofLeagues(1, 0, 1);
        City.run(x, 0, 1);
        City.run(x, 1, 0, 2);
        x.note(0, 2, 0, 50);
        Check.is("2", 2, x.endYear());
        City.run(x, 1, 0, 1);
        Check.is("the league 0 did not march", -1, x.endYear());
        City.run(x, 0, 2);
        Check.is("the league 1 did not march", -1, x.endYear());
        City.run(x, 0, 2);
        City.run(x, 1, 0, 1);
        Check.is("the society 0", 0, x.endYear());
    }

    /**
     * Terms: "To end the year pays grants, by the tables: in a league 100 times how many marched, to the first one, 100
     * less to each next one;" From one to all ten, and none to one that did not march.
     */
    static void grants() {
        for (int count = 1; count <= 10; count++) {
            Floatparade x = City.ofLeagues(0, 0, 0, 0, 0, 0, 0, 0, 0, 0);
            for (int i = 0; i < count; i++) {
                x.enter(i, 0);
            }
            x.begin(0, 1, 200);
            City.toTheEnd(x, 0);
            for (int i = 0; i < count; i++) {
                x.note(0, i, 0, 50 + i);
            }
            x.endYear();
            for (int i = 0; i < 10; i++) {
                Check.is("grant of " + i + ", " + count + " marched", i < count ? 100 * (i + 1) : 0, x.about(i, 6));
            }
        }
    }

    /** Terms: "by the tables": of each league by its own; and money comes to what there is of the years before. */
    static void grantsOfBothLeagues() {
        Floatparade x = City.ofLeagues(0, 1, 0, 1, 1);
        for (int year = 1; year <= 3; year++) {
            City.run(x, 1, 1, 3, 4);
            if (year == 3) {
                City.run(x, 0, 0, 2);
            }
            x.endYear();
            int[] due = {year == 3 ? 200 : 0, 300 * year, year == 3 ? 100 : 0, 200 * year, 100 * year};
            for (int i = 0; i < due.length; i++) {
                Check.is("money of " + i + ", year " + year, due[i], x.about(i, 6));
            }
        }
    }

    /**
     * Terms: "if both leagues marched, the last one of the league 0 goes down, and the first one of the league 1 comes
     * up." The last and the first of the tables, of one society each or of some.
     */
    static void upAndDown() {
        Floatparade one = City.ofLeagues(0, 1);
        City.run(one, 0, 0);
        City.run(one, 1, 1);
        Check.is("the only one comes up", 1, one.endYear());
        Check.is("the only one goes down", 1, one.about(0, 0));
        Check.is("up", 0, one.about(1, 0));
        Floatparade x = City.ofLeagues(0, 0, 0, 1, 1, 1);
        City.run(x, 0, 0, 1);
        City.run(x, 1, 3, 4);
        x.note(0, 1, 0, 50);
        x.note(0, 4, 0, 50);
        Check.is("4 is first", 4, x.endYear());
        int[] due = {1, 0, 0, 1, 0, 1};
        for (int i = 0; i < due.length; i++) {
            Check.is("league of " + i, due[i], x.about(i, 0));
        }
        for (int league = 0; league < 2; league++) {
            Floatparade alone = City.ofLeagues(0, 1, league);
            City.run(alone, league, league, 2);
            alone.endYear();
            Check.is("one league alone marched: 0", 0, alone.about(0, 0));
            Check.is("one league alone marched: 1", 1, alone.about(1, 0));
            Check.is("one league alone marched: 2", league, alone.about(2, 0));
        }
    }

    private static Floatparade afterAYear() {
        Floatparade x = City.judged();
        x.endYear();
        return x;
    }

    /**
     * Terms: "Themes, songs, floats, entries, lots, notes, penalties and the march are gone then;" Of all societies.
     */
    static void whatIsGone() {
        Floatparade x = afterAYear();
        for (int i = 0; i < 5; i++) {
            int society = i;
            int[] due = {0, -1, 0, 0};
            for (int what = 2; what <= 5; what++) {
                Check.is("about " + i + " " + what, due[what - 2], x.about(i, what));
            }
            Check.is("entered", 0, x.about(i, 7));
            Check.is("penalties", 0, x.about(i, 8));
            for (int category = 0; category < 5; category++) {
                Check.is("notes", 0, x.notes(i, category));
            }
            Check.is("began", -1, x.clock(i, 0));
            Check.is("gaps", 0, x.clock(i, 2));
            Check.index("floats", () -> x.fits(society, 0));
            Check.index("songs", () -> x.vote(society, 0, 1));
            Check.index("penalties", () -> x.penaltyAt(society, 0, 0));
            for (int song = 0; song < 6; song++) {
                Check.is("songs anew", song, x.song(i));
            }
            for (int song = 0; song < 6; song++) {
                Check.is("votes anew", 1, x.vote(i, song, 1));
            }
            Check.is("floats anew", 0, x.build(i, 1, 1, 1, 1));
        }
        for (int league = 0; league < 2; league++) {
            int of = league;
            Check.is("order", -1, x.order(league, 0));
            Check.is("table", -1, x.table(league, 0));
            Check.state("march", () -> x.part(of, 0, 0));
            Check.state("march", () -> x.stop(of, 0, 1));
        }
        Check.is("no theme refuses this one", 0, x.theme(4, 4095, 99));
        Check.is("lots anew", 1, x.enter(1, 0));
    }

    /** Terms: "Themes, songs, floats, entries, lots, notes, penalties" Also those of one that did not march. */
    static void whatIsGoneOfOthers() {
        Floatparade x = City.ofLeagues(0, 1, 1);
        x.theme(1, 7, 1);
        x.song(1);
        x.song(1);
        x.round(1);
        x.build(1, 1, 1, 1, 1);
        x.enter(1, 50);
        City.run(x, 0, 0);
        x.endYear();
        int[] due = {0, -1, 0, 0, 0, 0};
        for (int what = 2; what <= 7; what++) {
            Check.is("about 1 " + what, due[what - 2], x.about(1, what));
        }
        Check.is("order", -1, x.order(1, 0));
        Check.is("songs anew", 0, x.song(1));
        Check.takes("no entry binds the route", () -> x.route(1, 0));
        x.goOn(1, 1);
        Check.is("the first entry", 1, x.enter(2, 0));
        Check.is("and the second", 2, x.enter(1, 0));
        Check.is("by the new lot", 1, x.order(1, 0));
    }

    /** Terms: "notes, penalties and the march are gone then;" Notes and penalties of the next year are new ones. */
    static void notesAndPenaltiesAnew() {
        Floatparade x = withPenalties(20);
        for (int i = 0; i < 20; i++) {
            x.note(i % 4, 0, i / 4, 50 + i);
            x.appeal(0, i);
        }
        x.endYear();
        City.run(x, 0, 0);
        Check.is("points", 0, x.about(0, 5));
        for (int i = 0; i < 20; i++) {
            Check.is("no note before", -1, x.note(i % 4, 0, i / 4, 60));
            Check.is("how many", i + 1, x.penalty(0, 9, 1));
            Check.is("not appealed away", 0, x.penaltyAt(0, i, 2));
        }
        Check.is("points", 5 * 120 - 20, x.about(0, 5));
    }

    /**
     * Terms: "penalties and the march are gone then;" The next one has its own parts, minutes, gaps and held corners.
     * Each corner was once held in the last minute of the year, as the first one of the route.
     */
    static void marchAnew() {
        for (int corner = 0; corner < 12; corner++) {
            Floatparade x = afterMarchWithAGap(corner);
            x.ambulance(corner);
            Check.is("the last minute", 11, x.march(0, 1));
            Check.is("a penalty for the gap", 1, x.about(0, 8));
            x.endYear();
            x.enter(0, 0);
            Check.is("a wing alone", 1, x.begin(0, 1, 200));
            Check.index("a second part", () -> x.part(0, 1, 0));
            Check.is("the first minute", 1, x.march(0, 1));
            Check.is("the corner is not held", 2, x.part(0, 0, 2));
            Check.is("to the end", 4, x.march(0, 60));
            isAbout("no gap, no penalty", x, 0, 0, 1, 0, -1, 0, 0, 100, 1, 0);
            Check.is("no gap", 0, x.clock(0, 2));
        }
    }

    /** A minute ahead of the end of a march along one street, whose first corner is told. */
    private static Floatparade afterMarchWithAGap(int corner) {
        Floatparade x = new Floatparade();
        x.street(corner, (corner + 1) % 12, 10, 30, 30, 99);
        x.route(0, corner);
        x.goOn(0, (corner + 1) % 12);
        City.enters(x, 1, 2);
        x.begin(0, 1, 200);
        x.march(0, 1);
        x.jury(corner, true);
        x.march(0, 1);
        x.jury(corner, false);
        x.stop(0, 1, 5);
        Check.is("the tenth minute", 10, x.march(0, 8));
        Check.is("the wing is at the last cell", 9, x.part(0, 1, 2));
        Check.is("a gap", 1, x.clock(0, 2));
        return x;
    }

    /** Terms: "juries, streets, routes, feuds and money stay." */
    static void whatStays() {
        Floatparade x = afterAYear();
        for (int corner = 0; corner < 12; corner++) {
            Check.is("jury at " + corner, corner == 1, x.jury(corner, false));
        }
        Check.state("streets", () -> x.street(0, 1, 1, 3, 2, 1));
        Check.state("streets", () -> x.street(3, 2, 1, 3, 2, 1));
        Check.is("how many", 4, x.street(3, 4, 1, 3, 2, 1));
        Check.is("route of the league 0", 4 + 3 + 5 + 1, x.goOn(0, 4));
        Check.is("route of the league 1", 5 + 3 + 4, x.goOn(1, 0));
        Check.is("feud", true, x.feud(3, 0, true));
        Check.is("no feud", false, x.feud(1, 2, true));
        int[] money = {0, 0, 100, 0, 0};
        money[City.judged().table(0, 0)] = 200;
        money[City.judged().table(0, 1)] = 100;
        for (int i = 0; i < 5; i++) {
            Check.is("money of " + i, money[i], x.about(i, 6));
        }
        Check.is("members", 25, x.about(0, 1));
    }

    // ---- promise 30: about

    /** Promise 30: "society: a society" "Throws IndexOutOfBoundsException if there is no such society" */
    static void societyOfAnAbout() {
        Refused.indexBeyond("society", 0, 9, City::ofTen, (x, society) -> x.about(society, 0));
        Refused.indexBeyond("society", 0, 4, City::judged, (x, society) -> x.about(society, 8));
        Refused.index("none is there yet", City::empty, x -> x.about(0, 0));
        Refused.index("no society, no what", City::judged, x -> x.about(5, 9));
    }

    /**
     * Promise 30: "what: 0 its league, 1 its members, 2 the words of its theme, 0 without one, 3 its song: the chosen
     * one, NONE, 4 how many floats, 5 its points, 6 its money, 7 whether it entered, 1 or 0, 8 how many penalties"
     * "Throws IllegalArgumentException if what is out of range" "Tells of a society." "Returns as told."
     */
    static void whatOfAnAbout() {
        Refused.argumentBeyond("what", 0, 8, City::judged, (x, what) -> x.about(0, what));
        Floatparade first = City.ofLeagues(0, 1);
        isAbout("a new one", first, 0, 0, 1, 0, -1, 0, 0, 0, 0, 0);
        isAbout("a new one of the league 1", first, 1, 1, 1, 0, -1, 0, 0, 0, 0, 0);
        City.run(first, 1, 1);
        first.endYear();
        first.theme(1, 4095, 99);
        first.song(1);
        first.song(1);
        first.vote(1, 1, 1);
        first.round(1);
        first.build(1, 1, 1, 1, 1);
        first.build(1, 1, 1, 1, 1);
        first.build(1, 1, 1, 1, 1);
        City.run(first, 1, 1);
        first.note(0, 1, 4, 60);
        first.penalty(1, 9, 99);
        first.penalty(1, 9, 1);
        isAbout("all told", first, 1, 1, 1, 4095, 1, 3, -40, 100, 1, 2);
        isAbout("the other one", first, 0, 0, 1, 0, -1, 0, 0, 0, 0, 0);
    }

    private static void isAbout(String told, Floatparade x, int society, int... due) {
        for (int what = 0; what < due.length; what++) {
            Check.is(told + ": about(" + society + ", " + what + ")", due[what], x.about(society, what));
        }
    }

    /** Promise 30: "3 its song: the chosen one, NONE," without songs, and as long as two are left. */
    static void songOfAnAbout() {
        Floatparade x = City.ofSocieties(1);
        Check.is("no song", -1, x.about(0, 3));
        x.song(0);
        Check.is("the only one", 0, x.about(0, 3));
        x.song(0);
        Check.is("two", -1, x.about(0, 3));
        x.vote(0, 1, 1);
        x.round(0);
        Check.is("chosen", 1, x.about(0, 3));
    }

    // ---- promise 31: notes

    /** Promise 31: "society: a society" "Throws IndexOutOfBoundsException if there is no such society" */
    static void societyOfNotes() {
        Refused.indexBeyond("society", 0, 9, City::ofTen, (x, society) -> x.notes(society, 0));
        Refused.indexBeyond("society", 0, 4, City::judged, (x, society) -> x.notes(society, 4));
        Refused.index("none is there yet", City::empty, x -> x.notes(0, 0));
    }

    /** Promise 31: "category: 0 to 4" "Throws IllegalArgumentException if category is out of range" */
    static void categoryOfNotes() {
        Refused.argumentBeyond("category", 0, 4, City::judged, (x, category) -> x.notes(0, category));
        Refused.index("no society, no category", City::judged, x -> x.notes(5, 5));
        Floatparade x = marched(1);
        for (int category = 0; category < 5; category++) {
            x.note(0, 0, category, 60 + category);
        }
        for (int category = 0; category < 5; category++) {
            Check.is("category " + category, 60 + category, x.notes(0, category));
        }
    }

    /**
     * Promise 31: "Returns the notes of a category for a society, as they count." "Returns together."
     * Terms: "The notes of a category for a society: with four of them the lowest and the highest one are left out, with
     * three the lowest one; the others, together." From none to four, by each judge.
     */
    static void notesFromNoneToFour() {
        int[][] rows = {
            {0, 0, 0, 0, 0}, {50, 0, 0, 0, 50}, {0, 0, 0, 100, 100}, {50, 100, 0, 0, 150}, {0, 0, 50, 50, 100},
            {50, 60, 70, 0, 130}, {70, 60, 0, 50, 130}, {60, 0, 50, 70, 130}, {0, 60, 60, 60, 120}, {50, 50, 0, 60, 110},
            {60, 60, 50, 0, 120}, {50, 60, 70, 80, 130}, {80, 70, 60, 50, 130}, {60, 50, 80, 70, 130},
            {60, 60, 60, 60, 120}, {50, 50, 60, 60, 110}, {50, 50, 50, 60, 100}, {60, 100, 100, 100, 200},
            {100, 50, 100, 50, 150},
        };
        for (int[] row : rows) {
            Floatparade x = marched(1);
            for (int judge = 0; judge < 4; judge++) {
                if (row[judge] > 0) {
                    x.note(judge, 0, 3, row[judge]);
                }
            }
            Check.is("notes together", row[4], x.notes(0, 3));
            Check.is("points", row[4], x.about(0, 5));
        }
    }

    /**
     * Terms: "Its points: all categories, less its penalties that were not appealed away." The greatest and the least.
     */
    static void pointsOfAll() {
        Floatparade x = marched(1);
        Check.is("none", 0, x.about(0, 5));
        for (int i = 0; i < 20; i++) {
            x.note(i % 4, 0, i / 4, 100);
        }
        Check.is("the greatest", 1000, x.about(0, 5));
        for (int i = 0; i < 20; i++) {
            x.penalty(0, 9, 99);
        }
        Check.is("less its penalties", 1000 - 1980, x.about(0, 5));
    }

    // ---- promise 32: penaltyAt

    /**
     * Promise 32: "society: a society" "number: of the penalty, from 0"
     * "Throws IndexOutOfBoundsException if there is no such society or penalty"
     */
    static void numberOfAPenalty() {
        Refused.indexBeyond("number", 0, 19, () -> withPenalties(20), (x, number) -> x.penaltyAt(0, number, 0));
        Refused.indexBeyond("number", 0, 0, () -> withPenalties(1), (x, number) -> x.penaltyAt(0, number, 0));
        Refused.index("no penalty", () -> withPenalties(0), x -> x.penaltyAt(0, 0, 0));
        Refused.index("another society has none", () -> withPenalties(20), x -> x.penaltyAt(1, 0, 0));
        Refused.index("society -1", City::judged, x -> x.penaltyAt(-1, 0, 0));
        Refused.index("society 5", City::judged, x -> x.penaltyAt(5, 0, 0));
        Refused.index("no society", City::empty, x -> x.penaltyAt(0, 0, 0));
    }

    /**
     * Promise 32: "what: 0 its paragraph, 1 its tenths, 2 whether it was appealed away, 1 or 0" "Tells of a penalty."
     * "Returns as told." "Throws IllegalArgumentException if what is out of range": behind the index.
     */
    static void whatOfAPenalty() {
        Refused.argumentBeyond("what", 0, 2, () -> withPenalties(1), (x, what) -> x.penaltyAt(0, 0, what));
        Refused.index("no penalty, no what", () -> withPenalties(1), x -> x.penaltyAt(0, 1, 3));
        Refused.index("no society, no what", () -> withPenalties(1), x -> x.penaltyAt(2, 0, -1));
        Floatparade x = withPenalties(20);
        x.appeal(0, 0);
        x.appeal(0, 19);
        for (int i = 0; i < 20; i++) {
            Check.is("paragraph", 4 + i % 6, x.penaltyAt(0, i, 0));
            Check.is("tenths", 1 + i, x.penaltyAt(0, i, 1));
            Check.is("appealed away", i == 0 || i == 19 ? 1 : 0, x.penaltyAt(0, i, 2));
        }
    }

    // ---- promise 33: isDoubted

    /** Promise 33: "judge: 0 to 3" "Throws IllegalArgumentException if judge is out of range" */
    static void judgeOfADoubt() {
        Refused.argumentBeyond("judge", 0, 3, City::judged, (x, judge) -> x.isDoubted(judge, 0));
        Refused.index("no society, no judge", City::judged, x -> x.isDoubted(4, 5));
    }

    /** Promise 33: "society: a society" "Throws IndexOutOfBoundsException if there is no such society" */
    static void societyOfADoubt() {
        Refused.indexBeyond("society", 0, 9, City::ofTen, (x, society) -> x.isDoubted(0, society));
        Refused.indexBeyond("society", 0, 4, City::judged, (x, society) -> x.isDoubted(3, society));
        Refused.index("none is there yet", City::empty, x -> x.isDoubted(0, 0));
    }

    /** A city in which so many categories, from the first one told on, have these notes of the judges, 0 for none. */
    private static Floatparade withNotes(int first, int count, int... notes) {
        Floatparade x = marched(2);
        for (int i = 0; i < count; i++) {
            for (int judge = 0; judge < notes.length; judge++) {
                if (notes[judge] > 0) {
                    x.note(judge, 0, (first + i) % 5, notes[judge]);
                }
            }
        }
        return x;
    }

    /**
     * Promise 33: "Tells whether a judge is doubted about a society." "Returns whether."
     * Terms: "A judge is doubted about a society, if in at least three categories"
     */
    static void doubtInThreeCategories() {
        for (int count = 0; count <= 5; count++) {
            for (int first = 0; first < 5; first++) {
                Floatparade x = withNotes(first, count, 60, 90);
                Check.is("in " + count + " from " + first, count >= 3, x.isDoubted(1, 0));
                Check.is("the lower one", false, x.isDoubted(0, 0));
                Check.is("about another society", false, x.isDoubted(1, 1));
            }
        }
        Floatparade apart = marched(1);
        for (int category = 0; category < 5; category += 2) {
            apart.note(2, 0, category, 100);
            apart.note(3, 0, category, 85);
        }
        Check.is("in 0, 2 and 4", true, apart.isDoubted(2, 0));
    }

    /**
     * Terms: "the judge's note is at least 15 above the mean, rounded down, of the notes of the others there (of one or
     * more)." By one, two and three others; by each judge.
     */
    static void doubtBy15() {
        int[][] rows = {
            // the judge's note, those of the others, whether there is a doubt
            {75, 60, 0, 0, 1}, {74, 60, 0, 0, 0}, {65, 50, 0, 0, 1}, {100, 85, 0, 0, 1}, {100, 86, 0, 0, 0},
            {75, 60, 61, 0, 1}, {75, 61, 61, 0, 0}, {74, 60, 59, 0, 1}, {75, 50, 71, 0, 1}, {75, 50, 72, 0, 0},
            {75, 60, 60, 62, 1}, {75, 60, 61, 62, 0}, {75, 60, 61, 61, 1}, {75, 100, 50, 50, 0}, {81, 99, 50, 50, 1},
            {100, 0, 0, 0, 0}, {0, 50, 50, 50, 0},
        };
        for (int[] row : rows) {
            for (int judge = 0; judge < 4; judge++) {
                int[] notes = new int[4];
                for (int i = 0; i < 4; i++) {
                    notes[(judge + i) % 4] = row[i];
                }
                Floatparade x = withNotes(1, 3, notes);
                String what = "note " + row[0] + ", others " + row[1] + " " + row[2] + " " + row[3];
                Check.is(what + ", judge " + judge, row[4] == 1, x.isDoubted(judge, 0));
            }
        }
    }

    /** Promise 33: "Returns whether." Without a note, without a march, and a year later none is doubted. */
    static void doubtOfNone() {
        for (int judge = 0; judge < 4; judge++) {
            Check.is("no notes", false, marched(1).isDoubted(judge, 0));
            Check.is("no march", false, City.ofSocieties(1).isDoubted(judge, 0));
            Floatparade x = withNotes(0, 5, 50, 50, 50, 100);
            Check.is("the judge 3", judge == 3, x.isDoubted(judge, 0));
            x.endYear();
            Check.is("a year later", false, x.isDoubted(judge, 0));
        }
    }

    // ---- promise 34: table

    /** Promise 34: "Throws IndexOutOfBoundsException if there is no such place: it is below 0" Ahead of the league. */
    static void placeBelow0() {
        Refused.index("-1", City::judged, x -> x.table(0, -1));
        Refused.index("the least", City::judged, x -> x.table(1, Integer.MIN_VALUE));
        Refused.index("no march", City::empty, x -> x.table(0, -1));
        Refused.index("no place, no league", City::judged, x -> x.table(2, -1));
    }

    /** Promise 34: "league: 0 or 1" "Throws IllegalArgumentException if league is out of range" */
    static void leagueOfATable() {
        Refused.argumentBeyond("league", 0, 1, City::judged, (x, league) -> x.table(league, 0));
        Refused.argument("no league, a place far behind", City::judged, x -> x.table(2, 99));
        Check.is("league 1", 2, City.judged().table(1, 0));
    }

    /**
     * Promise 34: "place: from 0" "Returns who is at a place of the table of a league." "Returns the society; NONE if
     * there are not so many," Terms: "then by their numbers." The first, the last, and what follows it.
     */
    static void placesOfTheTable() {
        for (int count = 1; count <= 10; count++) {
            Floatparade x = marched(count);
            for (int i = 0; i < count; i++) {
                Check.is("place " + i + " of " + count, i, x.table(0, i));
            }
            Check.is("behind the last of " + count, -1, x.table(0, count));
            Check.is("far behind", -1, x.table(0, Integer.MAX_VALUE));
            Check.is("the other league", -1, x.table(1, 0));
        }
    }

    /** Promise 34: "or its march has not ended." */
    static void tableAheadOfTheEnd() {
        for (int league = 0; league < 2; league++) {
            Check.is("no society", -1, City.empty().table(league, 0));
            Check.is("entered", -1, City.entered().table(league, 0));
            Check.is("marching", -1, City.marching().table(league, 0));
            Check.is("a year later", -1, afterAYear().table(league, 0));
        }
    }

    /**
     * Terms: "The table of a league has the societies that marched, by points, greatest first;" By 1 point; those that
     * did not march are not in it.
     */
    static void tableByPoints() {
        Floatparade x = City.ofLeagues(0, 0, 1, 0, 0);
        City.run(x, 0, 0, 1, 4);
        x.note(0, 0, 0, 50);
        x.note(0, 1, 4, 51);
        isTable(x, 1, 0, 4);
        x.penalty(1, 4, 2);
        isTable(x, 0, 1, 4);
        x.penalty(0, 4, 99);
        isTable(x, 1, 4, 0);
        x.appeal(0, 0);
        isTable(x, 0, 1, 4);
        x.appeal(1, 0);
        isTable(x, 1, 0, 4);
    }

    private static void isTable(Floatparade x, int... due) {
        for (int i = 0; i < due.length; i++) {
            Check.is("table, place " + i, due[i], x.table(0, i));
        }
        Check.is("table, behind the last", -1, x.table(0, due.length));
    }

    /** Terms: "of the same by the notes of the category": as they count, not as they were given; greater ones first. */
    static void tiesByNotesThatCount() {
        Floatparade x = marched(2);
        x.note(0, 0, 0, 60);
        x.note(1, 0, 0, 60);
        x.note(2, 0, 0, 60);
        x.note(0, 1, 0, 60);
        x.note(1, 1, 0, 61);
        x.penalty(1, 4, 1);
        Check.is("the same points", x.about(0, 5), x.about(1, 5));
        isTable(x, 1, 0);
    }
}
