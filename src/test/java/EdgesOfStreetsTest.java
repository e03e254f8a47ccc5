/** Promises 8 to 14, and what the terms say of streets and floats: the edges, sentence by sentence. */
public final class EdgesOfStreetsTest {
    public static void main(String[] args) throws IllegalAccessException {
        Check.all(EdgesOfStreetsTest.class);
    }

    // ---- promise 8: street

    /**
     * Promise 8: "one: a corner" "other: another one"
     * "Throws IndexOutOfBoundsException if there is no such corner, of either"
     * Terms: "Corners are numbered from 0 to 11."
     */
    static void cornersOfAStreet() {
        Refused.indexBeyond("one", 0, 11, City::preparing, (x, one) -> x.street(one, 7, 4, 5, 6, 7));
        Refused.indexBeyond("other", 0, 11, City::preparing, (x, other) -> x.street(7, other, 4, 5, 6, 7));
        Check.is("the first and the last", 1, City.empty().street(0, 11, 4, 5, 6, 7));
    }

    /**
     * Promise 8: "Throws IllegalArgumentException if both are the same," Terms: "A street is between two unlike
     * corners,"
     */
    static void streetToItself() {
        Refused.argument("0 and 0", City::preparing, x -> x.street(0, 0, 4, 5, 6, 7));
        Refused.argument("11 and 11", City::preparing, x -> x.street(11, 11, 4, 5, 6, 7));
        Refused.index("the same, and none", City::preparing, x -> x.street(12, 12, 4, 5, 6, 7));
    }

    /** Promise 8: "length: 1 to 30" It is as many cells of a route. */
    static void lengthOfAStreet() {
        Refused.argumentBeyond("length", 1, 30, City::preparing, (x, length) -> x.street(7, 8, length, 5, 6, 7));
        for (int length : new int[] {1, 30}) {
            Floatparade x = new Floatparade();
            x.street(7, 8, length, 3, 2, 1);
            x.route(0, 7);
            Check.is("cells", length, x.goOn(0, 8));
        }
    }

    /** A city with one street, the route of the league 0, and a float of its society 0. */
    private static Floatparade withStreet(int width, int wires, int load) {
        Floatparade x = new Floatparade();
        x.street(0, 1, 5, width, wires, load);
        x.route(0, 0);
        x.goOn(0, 1);
        x.society(0, 1);
        return x;
    }

    private static boolean goesThrough(Floatparade x, int width, int height, int weight) {
        return x.fits(0, x.build(0, width, height, weight, 1));
    }

    /** Promise 8: "width: 3 to 30" Through the least one a float 1 wide goes. */
    static void widthOfAStreet() {
        Refused.argumentBeyond("width", 3, 30, City::preparing, (x, width) -> x.street(7, 8, 4, width, 6, 7));
        Check.is("1 in 3", true, goesThrough(withStreet(3, 30, 99), 1, 1, 1));
        Check.is("2 in 3", false, goesThrough(withStreet(3, 30, 99), 2, 1, 1));
        Check.is("20 in 30", true, goesThrough(withStreet(30, 30, 99), 20, 1, 1));
    }

    /** Promise 8: "wires: 2 to 30" Under the lowest ones a float 1 high goes. */
    static void wiresOfAStreet() {
        Refused.argumentBeyond("wires", 2, 30, City::preparing, (x, wires) -> x.street(7, 8, 4, 5, wires, 7));
        Check.is("1 under 2", true, goesThrough(withStreet(30, 2, 99), 1, 1, 1));
        Check.is("2 under 2", false, goesThrough(withStreet(30, 2, 99), 1, 2, 1));
        Check.is("20 under 30", true, goesThrough(withStreet(30, 30, 99), 1, 20, 1));
    }

    /** Promise 8: "load: 1 to 99" On the greatest one the heaviest float goes. */
    static void loadOfAStreet() {
        Refused.argumentBeyond("load", 1, 99, City::preparing, (x, load) -> x.street(7, 8, 4, 5, 6, load));
        Check.is("1 on 1", true, goesThrough(withStreet(30, 30, 1), 1, 1, 1));
        Check.is("2 on 1", false, goesThrough(withStreet(30, 30, 1), 1, 1, 2));
        Check.is("99 on 99", true, goesThrough(withStreet(30, 30, 99), 1, 1, 99));
    }

    /** The streets between 0 and the others, and those between 1 and the others, as many as told. */
    private static Floatparade withStreets(int count) {
        Floatparade x = new Floatparade();
        for (int i = 1; i <= count; i++) {
            x.street(i < 12 ? 0 : 1, i < 12 ? i : i - 10, 2, 30, 30, 99);
        }
        return x;
    }

    /** Promise 8: "Lays a street." "Returns how many there are then." From none to the last one. */
    static void streetsFromNoneTo16() {
        for (int count = 0; count < 16; count++) {
            Check.is("one more than " + count, count + 1, withStreets(count).street(11, 10, 4, 5, 6, 7));
        }
        Floatparade x = withStreets(16);
        for (int i = 1; i < 12; i++) {
            x.route(0, 0);
            Check.is("0 to " + i, 2, x.goOn(0, i));
        }
        for (int i = 2; i < 7; i++) {
            x.route(0, i);
            Check.is(i + " to 1", 2, x.goOn(0, 1));
        }
    }

    /**
     * Promise 8: "Throws IllegalStateException if there are 16," Terms: "at most 16, with a length, a width, a height
     * of its wires and a load."
     */
    static void streetsAreFull() {
        Refused.state("a seventeenth", () -> withStreets(16), x -> x.street(11, 10, 4, 5, 6, 7));
        Check.is("the sixteenth", 16, withStreets(15).street(11, 10, 4, 5, 6, 7));
        Refused.argument("a range ahead of it", () -> withStreets(16), x -> x.street(11, 10, 4, 5, 6, 100));
        Refused.argument("the same ahead of it", () -> withStreets(16), x -> x.street(11, 11, 4, 5, 6, 7));
        Refused.index("a corner ahead of it", () -> withStreets(16), x -> x.street(11, 12, 4, 5, 6, 7));
    }

    /** Promise 8: "or one is between them" Terms: "at most one between the same two," In either direction. */
    static void streetBetweenTheSame() {
        Refused.state("0 and 1", City::preparing, x -> x.street(0, 1, 4, 10, 10, 50));
        Refused.state("1 and 0", City::preparing, x -> x.street(1, 0, 9, 9, 9, 9));
        Refused.argument("a range ahead of it", City::preparing, x -> x.street(1, 0, 31, 9, 9, 9));
        Check.is("0 and 2 are others", 4, City.preparing().street(0, 2, 9, 9, 9, 9));
        Floatparade x = withStreet(5, 5, 5);
        Check.state("a wider one", () -> x.street(1, 0, 9, 30, 30, 99));
        Check.is("the street is as it was", true, goesThrough(x, 3, 4, 5));
        Check.is("no wider, nor higher, nor firmer", false, goesThrough(x, 4, 4, 5));
        Check.is("the last one", false, goesThrough(x, 3, 5, 6));
        x.route(0, 0);
        Check.is("nor longer", 5, x.goOn(0, 1));
    }

    /** Promise 8: "or another argument is out of range", each of them, behind the corners. */
    static void whichOfAStreet() {
        Refused.index("no corner, no length", City::preparing, x -> x.street(-1, 3, 0, 5, 6, 7));
        Refused.index("no corner, no load", City::preparing, x -> x.street(3, 12, 4, 5, 6, 0));
        Refused.argument("one is there, no width", City::preparing, x -> x.street(0, 1, 4, 2, 6, 7));
        Refused.argument("one is there, no wires", City::preparing, x -> x.street(0, 1, 4, 5, 1, 7));
    }

    // ---- promise 9: route

    /** Promise 9: "corner: a corner" "Throws IndexOutOfBoundsException if there is no such corner" */
    static void cornerOfARoute() {
        Refused.indexBeyond("corner", 0, 11, City::preparing, (x, corner) -> x.route(0, corner));
    }

    /** Promise 9: "league: 0 or 1" "Throws IllegalArgumentException if league is out of range" */
    static void leagueOfARoute() {
        Refused.argumentBeyond("league", 0, 1, City::preparing, (x, league) -> x.route(league, 0));
        Refused.index("no corner, no league", City::preparing, x -> x.route(2, 12));
        Refused.index("no corner, entered", City::entered, x -> x.route(0, -1));
        Refused.argument("no league, entered", City::entered, x -> x.route(-1, 0));
    }

    /**
     * Promise 9: "Begins the route of a league anew with a corner." From none, from one of 10, of this league alone.
     */
    static void routeAnew() {
        Floatparade x = City.ofStreets(1, 1, 1, 1, 1, 1, 1, 1, 1);
        Check.state("10 corners", () -> x.goOn(0, 10));
        x.route(0, 9);
        Check.state("without a street", () -> x.goOn(0, 0));
        Check.is("the first cell", 1, x.goOn(0, 8));
        Check.state("the other league has 10 still", () -> x.goOn(1, 8));
        Floatparade y = withStreets(1);
        y.route(1, 11);
        y.route(1, 1);
        Check.is("the second beginning counts", 2, y.goOn(1, 0));
    }

    /** Promise 9: "Throws IllegalStateException if its march has begun, or one of its societies has entered" */
    static void routeIsBound() {
        Floatparade x = City.ofLeagues(0, 1);
        x.enter(1, 0);
        Check.takes("another league's has entered", () -> x.route(0, 1));
        Refused.state("entered", City::entered, y -> y.route(0, 0));
        Refused.state("entered, league 1", City::entered, y -> y.route(1, 0));
        Refused.state("a march goes on", City::marching, y -> y.route(0, 0));
        Refused.state("a march has ended", City::judged, y -> y.route(1, 0));
        Check.takes("a new year", () -> afterAYear().route(0, 0));
    }

    private static Floatparade afterAYear() {
        Floatparade x = City.judged();
        x.endYear();
        return x;
    }

    // ---- promise 10: goOn

    /** Promise 10: "corner: a corner" "Throws IndexOutOfBoundsException if there is no such corner" */
    static void cornerOfGoingOn() {
        for (int wrong : new int[] {-1, 12, Integer.MIN_VALUE, Integer.MAX_VALUE}) {
            Refused.index("corner " + wrong, City::preparing, x -> x.goOn(0, wrong));
        }
        Floatparade x = new Floatparade();
        x.street(0, 11, 3, 3, 2, 1);
        x.route(0, 0);
        Check.is("the last corner", 3, x.goOn(0, 11));
        x.route(0, 11);
        Check.is("the first corner", 3, x.goOn(0, 0));
    }

    /** Promise 10: "league: 0 or 1" "Throws IllegalArgumentException if league is out of range" */
    static void leagueOfGoingOn() {
        Refused.argumentBeyond("league", 0, 1, EdgesOfStreetsTest::begun, (x, league) -> x.goOn(league, 0));
        Refused.index("no corner, no league", City::preparing, x -> x.goOn(2, 12));
        Refused.index("no corner, entered", City::entered, x -> x.goOn(0, 12));
        Refused.argument("no league, no street", City::preparing, x -> x.goOn(2, 9));
    }

    private static Floatparade begun() {
        Floatparade x = City.ofStreets(2);
        x.route(0, 1);
        x.route(1, 1);
        return x;
    }

    /** Promise 10: "Throws IllegalStateException if its march has begun, one of its societies has entered," */
    static void routeIsBoundOnItsWay() {
        Floatparade x = City.ofStreets(2, 2);
        x.society(1, 1);
        x.route(0, 0);
        x.enter(0, 0);
        Check.is("another league's has entered", 2, x.goOn(0, 1));
        x.society(0, 1);
        x.enter(1, 0);
        Check.state("entered", () -> x.goOn(0, 2));
        x.begin(0, 1, 200);
        Check.state("it has begun", () -> x.goOn(0, 2));
        City.toTheEnd(x, 0);
        Check.state("it has ended", () -> x.goOn(0, 2));
        x.endYear();
        Check.is("a new year", 4, x.goOn(0, 2));
        Refused.state("entered", EdgesOfStreetsTest::shortRouteEntered, y -> y.goOn(0, 2));
    }

    private static Floatparade shortRouteEntered() {
        Floatparade x = City.ofStreets(2, 2);
        x.route(0, 0);
        x.goOn(0, 1);
        City.enters(x, 1);
        return x;
    }

    /** Promise 10: "it has no corner yet," */
    static void routeWithoutACorner() {
        Refused.state("no corner", () -> withStreets(3), x -> x.goOn(0, 0));
        Refused.state("no corner", () -> withStreets(3), x -> x.goOn(1, 1));
        Refused.state("neither a street nor a corner", City::empty, x -> x.goOn(0, 11));
    }

    /** Promise 10: "or 10," Terms: "The route is a row of 2 to 10 corners," */
    static void routeOf10Corners() {
        Floatparade x = City.ofStreets(30, 30, 30, 30, 30, 30, 30, 30, 1);
        x.street(9, 10, 30, 30, 30, 99);
        x.route(0, 10);
        int[] due = {30, 31, 61, 91, 121, 151, 181, 211, 241};
        for (int i = 0; i < due.length; i++) {
            Check.is("on to " + (9 - i), due[i], x.goOn(0, 9 - i));
        }
        Check.state("an eleventh", () -> x.goOn(0, 0));
        Refused.state("an eleventh", EdgesOfStreetsTest::fullRoute, y -> y.goOn(0, 10));
        Refused.index("no corner, and 10", EdgesOfStreetsTest::fullRoute, y -> y.goOn(0, 12));
        x.society(0, 1);
        Check.is("a march on 10 corners", 1, x.enter(0, 0));
    }

    private static Floatparade fullRoute() {
        Floatparade x = City.ofStreets(1, 1, 1, 1, 1, 1, 1, 1, 1);
        x.street(9, 10, 1, 30, 30, 99);
        return x;
    }

    /** Promise 10: "this one already," Terms: "no corner twice." Nor the first one, to close it. */
    static void cornerTwice() {
        Refused.state("the last one", City::preparing, x -> x.goOn(0, 3));
        Refused.state("the one before", City::preparing, x -> x.goOn(0, 2));
        Refused.state("the first one, with a street to it", EdgesOfStreetsTest::ring, x -> x.goOn(0, 0));
        Check.is("the ring in the other league", 9, ring().goOn(1, 0));
    }

    private static Floatparade ring() {
        Floatparade x = City.ofStreets(2, 2);
        x.street(2, 0, 9, 9, 9, 9);
        x.route(1, 2);
        return x;
    }

    /** Promise 10: "or there is no street to it" Terms: "each and the next one with a street between," */
    static void noStreetOn() {
        Refused.state("no street at all", City::preparing, x -> x.goOn(1, 11));
        Refused.state("one from another corner alone", () -> withStreets(2), x -> x.goOn(0, 2));
        Floatparade x = withStreets(2);
        x.route(0, 1);
        Check.state("none between 1 and 2", () -> x.goOn(0, 2));
        Check.is("to 0", 2, x.goOn(0, 0));
        Check.is("and from that to 2", 4, x.goOn(0, 2));
    }

    /**
     * Promise 10: "Leads the route on to a next corner." "Returns how many cells it has then."
     * Terms: "The route has as many cells as its streets are long,"
     */
    static void cellsOfARoute() {
        int[] lengths = {1, 30, 2, 29};
        Floatparade x = City.ofStreets(lengths);
        x.route(0, 0);
        int cells = 0;
        for (int i = 0; i < lengths.length; i++) {
            cells += lengths[i];
            Check.is("cells", cells, x.goOn(0, i + 1));
        }
        Floatparade y = City.ofStreets(30, 30, 30, 30, 30, 30, 30, 30);
        y.street(8, 9, 30, 30, 30, 99);
        Check.is("the longest one", 270, y.goOn(0, 9));
    }

    // ---- promise 11: jury

    /** Promise 11: "corner: a corner" "Throws IndexOutOfBoundsException if there is no such corner" */
    static void cornerOfAJury() {
        Refused.indexBeyond("corner", 0, 11, City::preparing, (x, corner) -> x.jury(corner, true));
        Refused.indexBeyond("corner", 0, 11, City::preparing, (x, corner) -> x.jury(corner, false));
    }

    /**
     * Promise 11: "Puts a jury at a corner, or takes it away." "isThere: whether" "Returns whether it was there."
     * Terms: "A jury may be at a corner." At each one, and by that at no other.
     */
    static void juryAtEachCorner() {
        for (int corner = 0; corner < 12; corner++) {
            Floatparade x = new Floatparade();
            Check.is("taken away where none was", false, x.jury(corner, false));
            Check.is("it was not there", false, x.jury(corner, true));
            for (int other = 0; other < 12; other++) {
                Check.is("at " + other, other == corner, x.jury(other, other == corner));
            }
            Check.is("it was there still", true, x.jury(corner, false));
            Check.is("it is away", false, x.jury(corner, true));
        }
    }

    // ---- promise 12: build

    /** Promise 12: "society: a society" "Throws IndexOutOfBoundsException if there is no such society" */
    static void societyOfABuilding() {
        Refused.indexBeyond("society", 0, 9, City::ofTen, (x, society) -> x.build(society, 5, 5, 5, 5));
        Refused.index("none is there yet", City::empty, x -> x.build(0, 5, 5, 5, 5));
        Refused.index("the next one", City::preparing, x -> x.build(5, 5, 5, 5, 5));
    }

    /**
     * Promise 12: "width: 1 to 20" "height: 1 to 20" "weight: 1 to 99" "length: 1 to 20"
     * Terms: "each with a width, height, weight and length."
     */
    static void measuresOfABuilding() {
        Refused.argumentBeyond("width", 1, 20, City::preparing, (x, width) -> x.build(3, width, 5, 5, 5));
        Refused.argumentBeyond("height", 1, 20, City::preparing, (x, height) -> x.build(3, 5, height, 5, 5));
        Refused.argumentBeyond("weight", 1, 99, City::preparing, (x, weight) -> x.build(3, 5, 5, weight, 5));
        Refused.argumentBeyond("length", 1, 20, City::preparing, (x, length) -> x.build(3, 5, 5, 5, length));
        Floatparade x = City.ofSocieties(1);
        x.build(0, 20, 20, 99, 20);
        Check.is("each as told", 19 + 19 + 98 + 19, x.cut(0, 0, 1, 1, 1, 1));
        x.build(0, 1, 1, 1, 1);
        Check.is("the least one can't be less", 0, x.cut(0, 1, 1, 1, 1, 1));
    }

    /** A society 0 with as many floats as told, each longer by 1. */
    private static Floatparade withFloats(int count) {
        Floatparade x = City.ofLeagues(0, 0);
        for (int i = 0; i < count; i++) {
            x.build(0, 5, 5, 5, 1 + i);
        }
        return x;
    }

    /** Promise 12: "Builds a float." "Returns its number." Terms: "A society has floats, up to 3, numbered from 0," */
    static void floatsFromNoneTo3() {
        for (int count = 0; count < 3; count++) {
            Floatparade x = withFloats(count);
            int number = count;
            Check.is("how many", count, x.about(0, 4));
            Check.index("not yet", () -> x.fits(0, number));
            Check.is("number", count, x.build(0, 5, 5, 5, 5));
            Check.is("it is there", true, x.fits(0, number));
            Check.is("how many then", count + 1, x.about(0, 4));
            Check.is("of another society", 0, x.build(1, 5, 5, 5, 5));
        }
    }

    /** Promise 12: "Throws IllegalStateException if it has 3, or has entered" */
    static void buildingIsBound() {
        Refused.state("a fourth", () -> withFloats(3), x -> x.build(0, 5, 5, 5, 5));
        Check.is("another society has none", 0, withFloats(3).build(1, 5, 5, 5, 5));
        Refused.state("entered, with 1", City::entered, x -> x.build(0, 1, 1, 1, 1));
        Refused.state("marching", City::marching, x -> x.build(1, 1, 1, 1, 1));
        Refused.state("the march has ended", City::judged, x -> x.build(2, 1, 1, 1, 1));
        Check.is("one that has not entered", 0, City.marching().build(3, 1, 1, 1, 1));
        Check.is("a new year", 0, afterAYear().build(0, 1, 1, 1, 1));
    }

    /** Promise 12: "Throws IllegalArgumentException if another argument is out of range": ahead of the state. */
    static void whichOfABuilding() {
        Refused.index("no society, no width", City::preparing, x -> x.build(5, 0, 5, 5, 5));
        Refused.index("no society, no length", City::entered, x -> x.build(-1, 5, 5, 5, 21));
        Refused.argument("no height, and 3", () -> withFloats(3), x -> x.build(0, 5, 21, 5, 5));
        Refused.argument("no weight, entered", City::entered, x -> x.build(0, 5, 5, 0, 5));
    }

    // ---- promise 13: cut

    /**
     * Promise 13: "society: a society" "number: of the float"
     * "Throws IndexOutOfBoundsException if there is no such society or float"
     */
    static void floatOfACut() {
        Refused.indexBeyond("number", 0, 2, () -> withFloats(3), (x, number) -> x.cut(0, number, 1, 1, 1, 1));
        Refused.index("no float yet", () -> withFloats(0), x -> x.cut(0, 0, 1, 1, 1, 1));
        Refused.index("the next one", () -> withFloats(2), x -> x.cut(0, 2, 1, 1, 1, 1));
        Refused.index("society -1", City::preparing, x -> x.cut(-1, 0, 1, 1, 1, 1));
        Refused.index("society 5", City::preparing, x -> x.cut(5, 0, 1, 1, 1, 1));
        Refused.index("no society", City::empty, x -> x.cut(0, 0, 1, 1, 1, 1));
        Refused.index("a year later", EdgesOfStreetsTest::afterAYear, x -> x.cut(0, 0, 1, 1, 1, 1));
    }

    /**
     * Promise 13: "width: 1 to what it is" "height: likewise" "weight: likewise" "length: likewise"
     * Terms: "none of these greater."
     */
    static void measuresOfACut() {
        Refused.argumentBeyond("width", 1, 4, City::preparing, (x, width) -> x.cut(0, 0, width, 5, 20, 3));
        Refused.argumentBeyond("height", 1, 5, City::preparing, (x, height) -> x.cut(0, 0, 4, height, 20, 3));
        Refused.argumentBeyond("weight", 1, 20, City::preparing, (x, weight) -> x.cut(0, 0, 4, 5, weight, 3));
        Refused.argumentBeyond("length", 1, 3, City::preparing, (x, length) -> x.cut(0, 0, 4, 5, 20, length));
        Refused.argument("less in three, greater in one", City::preparing, x -> x.cut(0, 0, 1, 1, 1, 4));
        Floatparade x = City.preparing();
        x.cut(0, 0, 3, 4, 19, 2);
        Check.argument("what it was is too much now", () -> x.cut(0, 0, 4, 4, 19, 2));
        Check.argument("what it was is too much now", () -> x.cut(0, 0, 3, 5, 19, 2));
        Check.argument("what it was is too much now", () -> x.cut(0, 0, 3, 4, 20, 2));
        Check.argument("what it was is too much now", () -> x.cut(0, 0, 3, 4, 19, 3));
    }

    /**
     * Promise 13: "Cuts a float down." "Returns by how much it is less, all four together."
     * Terms: "To cut a float down is to make it as narrow, low, light and short as told;"
     */
    static void howMuchIsCut() {
        Floatparade x = withFloats(3);
        x.build(1, 20, 20, 99, 20);
        Check.is("nothing", 0, x.cut(1, 0, 20, 20, 99, 20));
        Check.is("1 in each", 4, x.cut(1, 0, 19, 19, 98, 19));
        Check.is("all that is left", 18 + 18 + 97 + 18, x.cut(1, 0, 1, 1, 1, 1));
        Check.is("nothing any more", 0, x.cut(1, 0, 1, 1, 1, 1));
        Check.is("the last one of another society", 4 + 4 + 4 + 2, x.cut(0, 2, 1, 1, 1, 1));
        Check.is("the others were not cut", 4 + 4 + 4, x.cut(0, 0, 1, 1, 1, 1));
    }

    /** Promise 13: "Throws IllegalStateException if the society has entered" */
    static void cuttingIsBound() {
        Refused.state("entered", City::entered, x -> x.cut(0, 0, 1, 1, 1, 1));
        Refused.state("nothing to cut", City::entered, x -> x.cut(0, 0, 4, 5, 20, 3));
        Refused.state("marching", City::marching, x -> x.cut(1, 1, 1, 1, 1, 1));
        Refused.state("the march has ended", City::judged, x -> x.cut(2, 0, 1, 1, 1, 1));
        Floatparade x = City.preparing();
        x.enter(1, 0);
        Check.is("another one has entered", 3 + 4 + 19 + 2, x.cut(0, 0, 1, 1, 1, 1));
    }

    /** Promise 13: "Throws IllegalArgumentException if another argument is out of range": ahead of the state. */
    static void whichOfACut() {
        Refused.index("no float, no width", City::preparing, x -> x.cut(0, 1, 0, 5, 20, 3));
        Refused.index("no float, entered", City::entered, x -> x.cut(0, 1, 1, 1, 1, 1));
        Refused.index("no society, no length", City::entered, x -> x.cut(5, 0, 1, 1, 1, 0));
        Refused.argument("greater, entered", City::entered, x -> x.cut(0, 0, 5, 5, 20, 3));
        Refused.argument("none, entered", City::entered, x -> x.cut(0, 0, 4, 5, 0, 3));
    }

    // ---- promise 14: fits

    /**
     * Promise 14: "society: a society" "number: of the float"
     * "Throws IndexOutOfBoundsException if there is no such society or float"
     */
    static void floatThatFits() {
        Refused.indexBeyond("number", 0, 2, () -> withFloats(3), (x, number) -> x.fits(0, number));
        Refused.index("no float yet", () -> withFloats(0), x -> x.fits(0, 0));
        Refused.index("society -1", City::preparing, x -> x.fits(-1, 0));
        Refused.index("society 5", City::preparing, x -> x.fits(5, 0));
        Refused.index("no society", City::empty, x -> x.fits(0, 0));
    }

    /** Promise 14: "false if the route has no street." Neither without a corner, nor with one. */
    static void fitsNoRoute() {
        Floatparade x = withStreets(1);
        x.society(0, 1);
        x.build(0, 1, 1, 1, 1);
        Check.is("no corner", false, x.fits(0, 0));
        x.route(0, 0);
        Check.is("one corner", false, x.fits(0, 0));
        x.goOn(0, 1);
        Check.is("one street", true, x.fits(0, 0));
        x.route(0, 1);
        Check.is("anew, one corner", false, x.fits(0, 0));
    }

    /**
     * Promise 14: "Tells whether a float fits the route of the league of its society." "Returns whether it does;"
     * Each by its own route, also behind a year in which two were exchanged.
     */
    static void fitsItsLeague() {
        Floatparade x = City.ofLeagues(0, 1);
        x.street(1, 2, 2, 5, 5, 5);
        x.route(1, 1);
        x.goOn(1, 2);
        for (int society = 0; society < 2; society++) {
            x.build(society, 3, 4, 6, 1);
            Check.is("league " + society, society == 0, x.fits(society, 0));
        }
        x.cut(1, 0, 3, 4, 5, 1);
        City.run(x, 0, 0);
        City.run(x, 1, 1);
        x.endYear();
        for (int society = 0; society < 2; society++) {
            x.build(society, 3, 4, 6, 1);
            Check.is("exchanged " + society, society == 1, x.fits(society, 0));
        }
    }

    /**
     * Terms: "A float fits a route, if for each street of it the width is at least 2 less than the street's,
     * the height at least 1 less than that of the wires, the weight at most the load,"
     */
    static void fitsEachStreet() {
        int[][] measures = {{8, 9, 50}, {9, 9, 50}, {8, 10, 50}, {8, 9, 51}};
        int[][] others = {{30, 30, 99}, {11, 11, 51}};
        for (int[] other : others) {
            for (int place = 0; place < 3; place++) {
                Floatparade x = new Floatparade();
                for (int i = 0; i < 3; i++) {
                    int[] street = i == place ? new int[] {10, 10, 50} : other;
                    x.street(i, i + 1, 3, street[0], street[1], street[2]);
                }
                x.route(0, 0);
                x.goOn(0, 1);
                x.goOn(0, 2);
                x.goOn(0, 3);
                for (int i = 0; i < measures.length; i++) {
                    x.society(0, 1);
                    x.build(i, measures[i][0], measures[i][1], measures[i][2], 1);
                    Check.is("street " + place + ", float " + i, i == 0, x.fits(i, 0));
                }
            }
        }
    }

    /** Terms: "and at each corner between two streets its length is at most both their widths together." */
    static void fitsEachCorner() {
        int[][] widths = {{5, 4, 6}, {6, 4, 5}};
        for (int[] row : widths) {
            Floatparade x = new Floatparade();
            for (int i = 0; i < 3; i++) {
                x.street(i, i + 1, 3, row[i], 30, 99);
            }
            x.society(0, 1);
            x.build(0, 1, 1, 1, row[0] + row[1]);
            x.build(0, 1, 1, 1, row[0] + row[1] + 1);
            x.build(0, 1, 1, 1, row[1] + row[2] + 1);
            x.route(0, 0);
            x.goOn(0, 1);
            Check.is("no corner between two streets", true, x.fits(0, 1));
            x.goOn(0, 2);
            Check.is("both widths", true, x.fits(0, 0));
            Check.is("1 longer", false, x.fits(0, 1));
            x.route(0, 2);
            x.goOn(0, 1);
            x.goOn(0, 0);
            Check.is("backwards", true, x.fits(0, 0));
            Check.is("backwards, 1 longer", false, x.fits(0, 1));
            x.route(0, 1);
            x.goOn(0, 2);
            x.goOn(0, 3);
            Check.is("the other corner, 1 longer", false, x.fits(0, 2));
            x.cut(0, 2, 1, 1, 1, row[1] + row[2]);
            Check.is("the other corner, both widths", true, x.fits(0, 2));
            x.route(0, 0);
            x.goOn(0, 1);
            x.goOn(0, 2);
            x.goOn(0, 3);
            Check.is("both corners, the shorter one", true, x.fits(0, row[0] < row[2] ? 0 : 2));
            Check.is("both corners, the longer one", false, x.fits(0, row[0] < row[2] ? 2 : 0));
        }
    }
}
