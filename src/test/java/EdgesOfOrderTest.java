import java.util.function.Supplier;

/** Promises 15 to 17, and what the terms say of the order: the edges, sentence by sentence. */
public final class EdgesOfOrderTest {
    public static void main(String[] args) throws IllegalAccessException {
        Check.all(EdgesOfOrderTest.class);
    }

    private static void isOrder(Floatparade x, int league, int... due) {
        for (int i = 0; i < due.length; i++) {
            Check.is("order(" + league + ", " + i + ")", due[i], x.order(league, i));
        }
        Check.is("order, behind the last", -1, x.order(league, due.length));
    }

    private static Floatparade tenOfLeague0() {
        return City.ofLeagues(0, 0, 0, 0, 0, 0, 0, 0, 0, 0);
    }

    // ---- promise 15: enter

    /** Promise 15: "society: a society" "Throws IndexOutOfBoundsException if there is no such society" */
    static void societyOfAnEntry() {
        Refused.indexBeyond("society", 0, 9, EdgesOfOrderTest::tenOfLeague0, (x, society) -> x.enter(society, 5));
        Refused.index("none is there yet", City::empty, x -> x.enter(0, 5));
        Refused.index("the next one", City::preparing, x -> x.enter(5, 5));
    }

    /** Promise 15: "lot: 0 to 99" "Throws IllegalArgumentException if lot is out of range" */
    static void lotOfAnEntry() {
        Refused.argumentBeyond("lot", 0, 99, City::preparing, (x, lot) -> x.enter(0, lot));
        Floatparade x = City.ofLeagues(0, 0, 0);
        x.enter(0, 99);
        x.enter(1, 0);
        x.enter(2, 98);
        isOrder(x, 0, 1, 2, 0);
    }

    /**
     * Promise 15: "Lets a society enter for the march of its league, with a lot."
     * "Returns how many of its league have entered." Terms: "Societies enter for the march of a league."
     * From none to ten, and of the other league none.
     */
    static void entriesFromNoneTo10() {
        Floatparade x = tenOfLeague0();
        for (int i = 0; i < 10; i++) {
            Check.is("not entered", 0, x.about(i, 7));
            Check.is("how many", i + 1, x.enter(i, 10));
            Check.is("entered", 1, x.about(i, 7));
        }
        isOrder(x, 0, 0, 1, 2, 3, 4, 5, 6, 7, 8, 9);
        isOrder(x, 1);
        Floatparade y = City.ofLeagues(0, 1, 1);
        Check.is("the first of the league 1", 1, y.enter(1, 5));
        Check.is("the first of the league 0", 1, y.enter(0, 5));
        Check.is("the second of the league 1", 2, y.enter(2, 5));
    }

    /** Promise 15: "Throws IllegalStateException if it has, the march of its league has begun," */
    static void enteringTwiceOrLate() {
        Refused.state("it has", City::entered, x -> x.enter(0, 50));
        Refused.state("the march goes on", City::marching, x -> x.enter(3, 50));
        Refused.state("the march has ended", City::judged, x -> x.enter(4, 50));
        Floatparade x = City.ofLeagues(0, 1);
        x.enter(0, 5);
        x.begin(0, 1, 200);
        Check.is("the march of the other league has begun", 1, x.enter(1, 5));
    }

    /** Promise 15: "the route has no street," Terms: a route of 2 corners is the shortest one. */
    static void enteringWithoutARoute() {
        Supplier<Floatparade> noCorner = () -> City.ofSocieties(2);
        Refused.state("no corner", noCorner, x -> x.enter(0, 5));
        Supplier<Floatparade> oneCorner = () -> {
            Floatparade x = City.ofLeagues(0, 1);
            x.route(0, 1);
            return x;
        };
        Refused.state("one corner", oneCorner, x -> x.enter(0, 5));
        Check.is("two corners", 1, oneCorner.get().enter(1, 5));
        Floatparade x = oneCorner.get();
        x.goOn(0, 0);
        Check.is("two corners", 1, x.enter(0, 5));
    }

    /** Promise 15: "or a float of it does not fit" The first, the second, or the third one. */
    static void enteringWithAFloatTooWide() {
        for (int wide = -1; wide < 3; wide++) {
            int number = wide;
            Supplier<Floatparade> city = () -> withWideFloat(number);
            if (wide == -1) {
                Check.is("all fit", 1, city.get().enter(0, 5));
            } else {
                Refused.state("does not fit: " + wide, city, x -> x.enter(0, 5));
                Floatparade x = city.get();
                x.cut(0, number, 8, 1, 1, 1);
                Check.is("cut down", 1, x.enter(0, 5));
            }
        }
        Check.is("one of another society does not", 1, withWideFloat(0).enter(1, 5));
    }

    private static Floatparade withWideFloat(int number) {
        Floatparade x = new Floatparade();
        x.street(0, 1, 2, 10, 10, 50);
        x.route(0, 0);
        x.goOn(0, 1);
        x.society(0, 1);
        x.society(0, 1);
        for (int i = 0; i < 3; i++) {
            x.build(0, i == number ? 9 : 8, 1, 1, 1);
        }
        return x;
    }

    /** Promise 15: "Throws IllegalArgumentException if lot is out of range": behind the society, ahead of the state. */
    static void whichOfAnEntry() {
        Refused.index("no society, no lot", City::preparing, x -> x.enter(5, 100));
        Refused.index("no society", City::marching, x -> x.enter(-1, -1));
        Refused.argument("no lot, and it has", City::entered, x -> x.enter(0, 100));
        Refused.argument("no lot, begun", City::marching, x -> x.enter(3, -1));
        Refused.argument("no lot, no route", () -> City.ofSocieties(1), x -> x.enter(0, 100));
    }

    // ---- the terms: the order

    /**
     * Terms: "the others are between these by their lots, numbers told, rising, of the same by their numbers; without
     * one 0."
     */
    static void byLots() {
        Floatparade x = City.ofLeagues(0, 0, 0, 0, 0);
        x.enter(4, 0);
        x.enter(3, 0);
        isOrder(x, 0, 3, 4);
        x.enter(2, 99);
        x.enter(1, 99);
        isOrder(x, 0, 3, 4, 1, 2);
        x.enter(0, 1);
        isOrder(x, 0, 3, 4, 0, 1, 2);
    }

    /** Terms: "Their order is found anew with each entry, whatever was changed before:" */
    static void foundAnew() {
        Floatparade x = City.ofLeagues(0, 0, 0, 1);
        x.enter(0, 5);
        x.enter(1, 6);
        x.change(0, 1);
        isOrder(x, 0, 1, 0);
        x.enter(3, 0);
        isOrder(x, 0, 1, 0);
        x.enter(2, 7);
        isOrder(x, 0, 0, 1, 2);
        x.feud(0, 1, true);
        isOrder(x, 0, 0, 1, 2);
    }

    /**
     * 0, 1, 2, 3 in the league 0, and 4, 5 in the league 1. 1 is first and 0 last of the table of the league 0, 5 first
     * of that of the league 1: so 5 came up, 0 went down.
     */
    private static Floatparade afterExchange() {
        Floatparade x = City.ofLeagues(0, 0, 0, 0, 1, 1);
        City.run(x, 0, 0, 1, 2);
        City.run(x, 1, 4, 5);
        x.note(0, 1, 0, 90);
        x.note(0, 2, 0, 60);
        x.note(0, 5, 0, 60);
        Check.is("5 comes up", 5, x.endYear());
        return x;
    }

    /** Terms: "that which came up when the last year ended, if it is in this league and entered, is first;" */
    static void firstBound() {
        Floatparade x = afterExchange();
        x.enter(2, 0);
        x.enter(3, 0);
        isOrder(x, 0, 2, 3);
        x.enter(5, 99);
        isOrder(x, 0, 5, 2, 3);
        Floatparade alone = afterExchange();
        alone.enter(5, 99);
        isOrder(alone, 0, 5);
    }

    /** Terms: "that which came up when the last year ended": the last one, none that came up a year before. */
    static void firstBoundForAYear() {
        Floatparade x = afterExchange();
        City.run(x, 0, 2, 3);
        Check.is("none comes up", -1, x.endYear());
        x.enter(5, 1);
        x.enter(3, 0);
        isOrder(x, 0, 3, 5);
        Floatparade y = afterExchange();
        City.run(y, 0, 2, 3);
        City.run(y, 1, 4);
        Check.is("4 comes up", 4, y.endYear());
        y.enter(5, 0);
        y.enter(4, 99);
        isOrder(y, 0, 4, 5);
    }

    /**
     * Terms: "that which was first of this league in its last table, of the last year that ended with a march of it,
     * if it is in it still and entered, is last;"
     */
    static void lastBound() {
        Floatparade x = afterExchange();
        x.enter(2, 99);
        x.enter(3, 99);
        isOrder(x, 0, 2, 3);
        x.enter(1, 0);
        isOrder(x, 0, 2, 3, 1);
        Floatparade alone = afterExchange();
        alone.enter(1, 0);
        isOrder(alone, 0, 1);
    }

    /** Terms: "of the last year that ended with a march of it": years without one leave it bound. */
    static void lastBoundOverYears() {
        Floatparade x = afterExchange();
        City.run(x, 1, 4);
        x.endYear();
        City.run(x, 1, 0, 4);
        x.endYear();
        x.enter(1, 0);
        x.enter(2, 99);
        isOrder(x, 0, 2, 1);
        x.begin(0, 1, 200);
        City.toTheEnd(x, 0);
        x.penalty(1, 4, 1);
        Check.is("first now", 2, x.table(0, 0));
        x.endYear();
        x.enter(2, 0);
        x.enter(1, 99);
        isOrder(x, 0, 1, 2);
    }

    /** Terms: "if it is in it still": that which was first and last goes down, and is not bound there. */
    static void lastBoundNoMore() {
        Floatparade x = City.ofLeagues(0, 1, 1);
        City.run(x, 0, 0);
        City.run(x, 1, 1, 2);
        Check.is("1 comes up", 1, x.endYear());
        x.enter(0, 0);
        x.enter(2, 50);
        isOrder(x, 1, 0, 2);
        x.enter(1, 0);
        x.society(0, 1);
        x.enter(3, 99);
        isOrder(x, 0, 1, 3);
    }

    /** Terms: "the others are between these": with all three kinds, each by its own. */
    static void betweenTheBound() {
        Floatparade x = afterExchange();
        x.enter(1, 0);
        x.enter(5, 99);
        isOrder(x, 0, 5, 1);
        x.enter(3, 99);
        x.enter(2, 0);
        isOrder(x, 0, 5, 2, 3, 1);
        x.enter(4, 99);
        x.enter(0, 98);
        isOrder(x, 1, 0, 4);
    }

    /** The order of so many, who enter with rising lots, with these feuds, two numbers each. */
    private static void isOrderWithFeuds(int count, int[] feuds, int... due) {
        Floatparade x = tenOfLeague0();
        for (int i = 0; i + 1 < feuds.length; i += 2) {
            x.feud(feuds[i], feuds[i + 1], true);
        }
        for (int i = 0; i < count; i++) {
            x.enter(i, i);
        }
        isOrder(x, 0, due);
    }

    /** Terms: "of the first such two the second one changes with the one behind it;" */
    static void feudWithOneBehind() {
        isOrderWithFeuds(3, new int[] {0, 1}, 0, 2, 1);
        isOrderWithFeuds(4, new int[] {1, 2}, 0, 1, 3, 2);
        isOrderWithFeuds(5, new int[] {0, 1, 3, 4}, 0, 2, 3, 1, 4);
    }

    /** Terms: "if there is none behind it, the first one with the one ahead of that;" */
    static void feudOfTheLastTwo() {
        isOrderWithFeuds(3, new int[] {1, 2}, 1, 0, 2);
        isOrderWithFeuds(4, new int[] {2, 3}, 0, 2, 1, 3);
    }

    /** Terms: "if there is none either, nothing is done any more." */
    static void feudOfTheOnlyTwo() {
        isOrderWithFeuds(2, new int[] {0, 1}, 0, 1);
        isOrderWithFeuds(1, new int[] {0, 1}, 0);
    }

    /**
     * Terms: "Then, as long as some two neighbours have a feud, and at most 10 times:" One that has a feud with all but
     * the last one goes behind them by 8 times, the most that end by themselves; else two go there and back, by turns.
     */
    static void feudsTenTimes() {
        int[] feuds = {0, 1, 1, 2, 1, 3, 1, 4, 1, 5, 1, 6, 1, 7, 1, 8};
        isOrderWithFeuds(10, feuds, 0, 2, 3, 4, 5, 6, 7, 8, 9, 1);
        isOrderWithFeuds(3, new int[] {0, 1, 0, 2}, 0, 1, 2);
        isOrderWithFeuds(3, new int[] {0, 1, 1, 2}, 2, 0, 1);
    }

    /** Terms: "(Bound ones, too.)" The last one is changed, and so is the first one. */
    static void feudsOfTheBound() {
        Floatparade x = afterExchange();
        x.feud(2, 3, true);
        x.enter(5, 0);
        x.enter(2, 0);
        x.enter(3, 0);
        isOrder(x, 0, 2, 5, 3);
        x.enter(1, 0);
        isOrder(x, 0, 5, 2, 1, 3);
        Floatparade y = afterExchange();
        y.feud(3, 1, true);
        y.enter(5, 0);
        y.enter(3, 0);
        y.enter(1, 0);
        isOrder(y, 0, 3, 5, 1);
    }

    // ---- promise 16: change

    /**
     * Promise 16: "one: a society" "other: another one"
     * "Throws IndexOutOfBoundsException if there is no such society, of either"
     */
    static void societiesOfAChange() {
        Refused.indexBeyond("one", 0, 9, EdgesOfOrderTest::tenEntered, (x, one) -> x.change(one, 5));
        Refused.indexBeyond("other", 0, 9, EdgesOfOrderTest::tenEntered, (x, other) -> x.change(5, other));
        Refused.index("none is there yet", City::empty, x -> x.change(0, 1));
        Refused.index("one is not there yet", City::entered, x -> x.change(5, 0));
        Refused.index("other is not there yet", City::entered, x -> x.change(0, 5));
    }

    private static Floatparade tenEntered() {
        Floatparade x = tenOfLeague0();
        for (int i = 0; i < 10; i++) {
            x.enter(i, i);
        }
        return x;
    }

    /** Promise 16: "Throws IllegalArgumentException if both are the same": behind the index, ahead of the state. */
    static void changeWithItself() {
        Refused.argument("the same", City::entered, x -> x.change(0, 0));
        Refused.argument("the same, not entered", City::entered, x -> x.change(3, 3));
        Refused.argument("the same, marching", City::marching, x -> x.change(1, 1));
        Refused.index("the same, not there", City::entered, x -> x.change(5, 5));
        Refused.index("not there, and one not entered", City::entered, x -> x.change(3, 5));
        Refused.index("not there, and the march has begun", City::marching, x -> x.change(-1, 0));
    }

    /**
     * Promise 16: "Throws IllegalStateException if one of them has not entered, they are of unlike leagues, or the
     * march has begun"
     */
    static void changeIsBound() {
        Refused.state("one has not entered", City::entered, x -> x.change(3, 0));
        Refused.state("the other has not entered", City::entered, x -> x.change(0, 3));
        Refused.state("neither has entered", City::preparing, x -> x.change(0, 1));
        Refused.state("unlike leagues", City::entered, x -> x.change(0, 2));
        Refused.state("unlike leagues", City::entered, x -> x.change(2, 1));
        Refused.state("the march has begun", City::marching, x -> x.change(0, 1));
        Refused.state("the march has ended", City::judged, x -> x.change(1, 0));
        Floatparade x = City.ofLeagues(0, 0, 1);
        x.enter(0, 1);
        x.enter(1, 2);
        x.enter(2, 3);
        x.begin(1, 1, 200);
        Check.is("the march of the other league has begun", true, x.change(0, 1));
    }

    /**
     * Promise 16: "Lets two societies change places, afterwards." "Returns whether they do." The first and the last.
     */
    static void changeOfTheEnds() {
        Floatparade x = tenEntered();
        Check.is("the first and the last", true, x.change(0, 9));
        isOrder(x, 0, 9, 1, 2, 3, 4, 5, 6, 7, 8, 0);
        Check.is("told the other way", true, x.change(0, 9));
        isOrder(x, 0, 0, 1, 2, 3, 4, 5, 6, 7, 8, 9);
        Check.is("the last two", true, x.change(9, 8));
        isOrder(x, 0, 0, 1, 2, 3, 4, 5, 6, 7, 9, 8);
        Floatparade two = City.ofLeagues(0, 0);
        two.enter(0, 0);
        two.enter(1, 0);
        two.feud(0, 1, true);
        Check.is("the only two, with a feud", true, two.change(0, 1));
        isOrder(two, 0, 1, 0);
    }

    /**
     * Terms: "Two societies may change places afterwards, if no two are neighbours with a feud then that were not so
     * ahead of it." Of five each two, by each two feuds.
     */
    static void changeByFeuds() {
        int[][] pairs = {{0, 1}, {0, 2}, {0, 3}, {0, 4}, {1, 2}, {1, 3}, {1, 4}, {2, 3}, {2, 4}, {3, 4}};
        for (int[] feud : pairs) {
            for (int[] second : pairs) {
                for (int[] change : pairs) {
                    boolean may = mayChange(feud, change) && mayChange(second, change);
                    changeOfFive(feud, second, change[0], change[1], may);
                    changeOfFive(feud, second, change[1], change[0], may);
                }
            }
        }
    }

    /** The societies 0 to 4 are at the places of their numbers ahead of the change. */
    private static boolean mayChange(int[] feud, int[] change) {
        int one = placeThen(feud[0], change);
        int other = placeThen(feud[1], change);
        return Math.abs(one - other) != 1 || Math.abs(feud[0] - feud[1]) == 1;
    }

    private static int placeThen(int society, int[] change) {
        if (society == change[0]) {
            return change[1];
        }
        return society == change[1] ? change[0] : society;
    }

    private static void changeOfFive(int[] feud, int[] second, int one, int other, boolean may) {
        Floatparade x = City.ofLeagues(0, 0, 0, 0, 0);
        for (int i = 0; i < 5; i++) {
            x.enter(i, i);
        }
        x.feud(feud[0], feud[1], true);
        x.feud(second[0], second[1], true);
        Check.is("change " + one + " " + other, may, x.change(one, other));
        int[] change = {one, other};
        for (int i = 0; i < 5; i++) {
            Check.is("place of " + i, i, x.order(0, may ? placeThen(i, change) : i));
        }
    }

    // ---- promise 17: order

    /**
     * Promise 17: "place: from 0" "Returns the society; NONE if there are not so many." "Returns who is at a place of
     * the order." The first, the last, and what follows it.
     */
    static void placesOfTheOrder() {
        for (int count = 0; count <= 10; count++) {
            Floatparade x = tenOfLeague0();
            for (int i = 0; i < count; i++) {
                x.enter(i, 99 - i);
            }
            for (int i = 0; i < count; i++) {
                Check.is("place " + i + " of " + count, count - 1 - i, x.order(0, i));
            }
            Check.is("behind the last of " + count, -1, x.order(0, count));
            Check.is("two behind the last of " + count, -1, x.order(0, count + 1));
            Check.is("far behind", -1, x.order(0, Integer.MAX_VALUE));
        }
    }

    /** Promise 17: "Throws IndexOutOfBoundsException if there is no such place: it is below 0" Ahead of the league. */
    static void placeBelow0() {
        Refused.index("-1", City::entered, x -> x.order(0, -1));
        Refused.index("the least", City::entered, x -> x.order(1, Integer.MIN_VALUE));
        Refused.index("nobody is there", City::empty, x -> x.order(0, -1));
        Refused.index("no place, no league", City::entered, x -> x.order(2, -1));
    }

    /** Promise 17: "league: 0 or 1" "Throws IllegalArgumentException if league is out of range" */
    static void leagueOfAnOrder() {
        Refused.argumentBeyond("league", 0, 1, City::entered, (x, league) -> x.order(league, 0));
        Refused.argument("no league, a place far behind", City::entered, x -> x.order(2, 99));
        Floatparade x = City.entered();
        isOrder(x, 0, 0, 1);
        isOrder(x, 1, 2);
    }
}
