/** Promises 8 to 14: street, route, goOn, jury, build, cut, fits. */
public final class StreetsTest {
    public static void main(String[] args) {
        street();
        streetWrong();
        route();
        routeWrong();
        goOn();
        goOnWrong();
        jury();
        build();
        buildWrong();
        cut();
        cutWrong();
        fits();
        fitsCorners();
        fitsWrong();
        Check.finish("StreetsTest");
    }

    /** Corners 0 to last in a row, of streets with two cells each. */
    private static Floatparade withRow(int last) {
        Floatparade x = new Floatparade();
        for (int i = 0; i < last; i++) {
            x.street(i, i + 1, 2, 30, 30, 99);
        }
        return x;
    }

    private static void street() {
        Floatparade x = new Floatparade();
        Check.is("least", 1, x.street(0, 11, 1, 3, 2, 1));
        Check.is("greatest", 2, x.street(11, 1, 30, 30, 30, 99));
        for (int i = 3; i <= 12; i++) {
            Check.is("street " + i, i, x.street(0, i - 2, 1, 3, 2, 1));
        }
        for (int i = 13; i <= 16; i++) {
            Check.is("street " + i, i, x.street(i - 10, 1, 1, 3, 2, 1));
        }
        Check.state("a seventeenth", () -> x.street(9, 10, 1, 3, 2, 1));
        Check.argument("range ahead of that", () -> x.street(9, 10, 0, 3, 2, 1));
        Check.index("corners ahead of that", () -> x.street(9, 12, 1, 3, 2, 1));
    }

    private static void streetWrong() {
        Floatparade x = new Floatparade();
        x.street(2, 3, 4, 5, 6, 7);
        Check.index("one -1", () -> x.street(-1, 3, 4, 5, 6, 7));
        Check.index("one 12", () -> x.street(12, 3, 4, 5, 6, 7));
        Check.index("other -1", () -> x.street(2, -1, 4, 5, 6, 7));
        Check.index("other 12", () -> x.street(2, 12, 4, 5, 6, 7));
        Check.index("the same and out of range", () -> x.street(12, 12, 4, 5, 6, 7));
        Check.argument("the same", () -> x.street(4, 4, 4, 5, 6, 7));
        Check.argument("length 0", () -> x.street(0, 1, 0, 5, 6, 7));
        Check.argument("length 31", () -> x.street(0, 1, 31, 5, 6, 7));
        Check.argument("width 2", () -> x.street(0, 1, 4, 2, 6, 7));
        Check.argument("width 31", () -> x.street(0, 1, 4, 31, 6, 7));
        Check.argument("wires 1", () -> x.street(0, 1, 4, 5, 1, 7));
        Check.argument("wires 31", () -> x.street(0, 1, 4, 5, 31, 7));
        Check.argument("load 0", () -> x.street(0, 1, 4, 5, 6, 0));
        Check.argument("load 100", () -> x.street(0, 1, 4, 5, 6, 100));
        Check.state("one is there", () -> x.street(2, 3, 4, 5, 6, 7));
        Check.state("one is there, the other way", () -> x.street(3, 2, 9, 9, 9, 9));
        Check.argument("range ahead of that", () -> x.street(3, 2, 9, 9, 9, 0));
        x.route(0, 3);
        Check.is("it is as it was", 4, x.goOn(0, 2));
        Check.state("none was laid", () -> x.goOn(0, 1));
        Check.is("the second one", 2, x.street(0, 1, 4, 5, 6, 7));
    }

    private static void route() {
        Floatparade x = withRow(3);
        x.route(0, 0);
        x.route(1, 2);
        Check.is("league 0", 2, x.goOn(0, 1));
        Check.is("league 1 has its own", 2, x.goOn(1, 1));
        Check.is("league 0", 4, x.goOn(0, 2));
        x.route(0, 3);
        Check.is("anew", 2, x.goOn(0, 2));
        Check.is("corners of the old one are free", 4, x.goOn(0, 1));
        Check.is("league 1 goes on", 4, x.goOn(1, 0));
        x.route(0, 11);
        Check.state("without a street on", () -> x.goOn(0, 10));
    }

    private static void routeWrong() {
        Floatparade x = withRow(2);
        x.society(0, 1);
        x.society(1, 1);
        x.route(0, 0);
        Check.index("corner -1", () -> x.route(0, -1));
        Check.index("corner 12, ahead of the league", () -> x.route(2, 12));
        Check.argument("league -1", () -> x.route(-1, 0));
        Check.argument("league 2", () -> x.route(2, 0));
        Check.is("nothing was changed", 2, x.goOn(0, 1));
        x.enter(0, 0);
        Check.state("one has entered", () -> x.route(0, 1));
        Check.argument("league ahead of that", () -> x.route(2, 1));
        x.route(1, 2);
        Check.is("the other league is free", 2, x.goOn(1, 1));
        x.begin(0, 1, 1);
        Check.state("the march has begun", () -> x.route(0, 1));
        x.march(0, 60);
        Check.state("it has ended: it has begun all the same", () -> x.route(0, 1));
        x.endYear();
        Check.is("the route stays over the year", 4, x.goOn(0, 2));
        x.route(0, 2);
        Check.is("and is free", 2, x.goOn(0, 1));
    }

    private static void goOn() {
        Floatparade x = new Floatparade();
        for (int i = 0; i < 11; i++) {
            x.street(i, i + 1, i + 1, 30, 30, 99);
        }
        x.route(1, 0);
        int cells = 0;
        for (int i = 1; i < 10; i++) {
            cells += i;
            Check.is("on to " + i, cells, x.goOn(1, i));
        }
        Check.state("an eleventh corner", () -> x.goOn(1, 10));
        x.route(1, 5);
        Check.is("back along a street", 5, x.goOn(1, 4));
    }

    private static void goOnWrong() {
        Floatparade x = withRow(3);
        x.street(0, 2, 9, 9, 9, 9);
        x.society(0, 1);
        Check.state("no corner yet", () -> x.goOn(0, 1));
        x.route(0, 0);
        Check.index("corner -1", () -> x.goOn(0, -1));
        Check.index("corner 12, ahead of the league", () -> x.goOn(7, 12));
        Check.argument("league -1", () -> x.goOn(-1, 1));
        Check.argument("league 2", () -> x.goOn(2, 1));
        Check.state("this one already, the last", () -> x.goOn(0, 0));
        Check.state("no street", () -> x.goOn(0, 3));
        Check.is("nothing was changed", 2, x.goOn(0, 1));
        Check.is("nothing was changed", 4, x.goOn(0, 2));
        Check.state("this one already, with a street", () -> x.goOn(0, 0));
        x.enter(0, 0);
        Check.state("one has entered", () -> x.goOn(0, 3));
        Check.argument("league ahead of that", () -> x.goOn(-1, 3));
        x.begin(0, 1, 1);
        x.march(0, 60);
        Check.state("the march has begun", () -> x.goOn(0, 3));
        x.endYear();
        Check.is("a new year", 6, x.goOn(0, 3));
    }

    private static void jury() {
        Floatparade x = new Floatparade();
        Check.is("was not there", false, x.jury(0, true));
        Check.is("was there", true, x.jury(0, true));
        Check.is("another one", false, x.jury(11, true));
        Check.is("taken away", true, x.jury(0, false));
        Check.is("is away", false, x.jury(0, false));
        Check.is("the other one stays", true, x.jury(11, false));
        Check.index("corner -1", () -> x.jury(-1, true));
        Check.index("corner 12", () -> x.jury(12, true));
    }

    private static void build() {
        Floatparade x = withRow(2);
        x.society(0, 1);
        x.society(0, 1);
        Check.is("least", 0, x.build(0, 1, 1, 1, 1));
        Check.is("greatest", 1, x.build(0, 20, 20, 99, 20));
        Check.is("third", 2, x.build(0, 1, 20, 1, 20));
        Check.is("how many", 3, x.about(0, 4));
        Check.is("of another one", 0, x.build(1, 5, 5, 5, 5));
        Check.is("how many", 1, x.about(1, 4));
        Check.is("it is as told", 20 + 20 + 99 + 20 - 4, x.cut(0, 1, 1, 1, 1, 1));
    }

    private static void buildWrong() {
        Floatparade x = withRow(2);
        x.society(0, 1);
        Check.index("society -1", () -> x.build(-1, 5, 5, 5, 5));
        Check.index("society 1, ahead of the width", () -> x.build(1, 0, 5, 5, 5));
        Check.argument("width 0", () -> x.build(0, 0, 5, 5, 5));
        Check.argument("width 21", () -> x.build(0, 21, 5, 5, 5));
        Check.argument("height 0", () -> x.build(0, 5, 0, 5, 5));
        Check.argument("height 21", () -> x.build(0, 5, 21, 5, 5));
        Check.argument("weight 0", () -> x.build(0, 5, 5, 0, 5));
        Check.argument("weight 100", () -> x.build(0, 5, 5, 100, 5));
        Check.argument("length 0", () -> x.build(0, 5, 5, 5, 0));
        Check.argument("length 21", () -> x.build(0, 5, 5, 5, 21));
        Check.is("nothing was built", 0, x.about(0, 4));
        x.build(0, 5, 5, 5, 5);
        x.build(0, 5, 5, 5, 5);
        x.route(0, 0);
        x.goOn(0, 1);
        x.enter(0, 0);
        Check.state("it has entered", () -> x.build(0, 5, 5, 5, 5));
        Check.argument("range ahead of that", () -> x.build(0, 5, 5, 5, 0));
        x.begin(0, 1, 1);
        x.march(0, 60);
        Check.state("it is entered still", () -> x.build(0, 5, 5, 5, 5));
        x.endYear();
        Check.is("floats are gone", 0, x.about(0, 4));
        x.build(0, 5, 5, 5, 5);
        x.build(0, 5, 5, 5, 5);
        x.build(0, 5, 5, 5, 5);
        Check.state("it has 3", () -> x.build(0, 5, 5, 5, 5));
        Check.is("how many", 3, x.about(0, 4));
    }

    private static void cut() {
        Floatparade x = new Floatparade();
        x.society(0, 1);
        x.build(0, 20, 18, 99, 10);
        x.build(0, 20, 18, 99, 10);
        Check.is("nothing less", 0, x.cut(0, 0, 20, 18, 99, 10));
        Check.is("width", 1, x.cut(0, 0, 19, 18, 99, 10));
        Check.is("height", 2, x.cut(0, 0, 19, 16, 99, 10));
        Check.is("weight", 90, x.cut(0, 0, 19, 16, 9, 10));
        Check.is("length", 9, x.cut(0, 0, 19, 16, 9, 1));
        Check.is("all", 18 + 15 + 8, x.cut(0, 0, 1, 1, 1, 1));
        Check.is("the other one was not cut", 20 + 18 + 99 + 10 - 4, x.cut(0, 1, 1, 1, 1, 1));
    }

    private static void cutWrong() {
        Floatparade x = withRow(1);
        x.society(0, 1);
        Check.index("no float", () -> x.cut(0, 0, 1, 1, 1, 1));
        x.build(0, 5, 6, 7, 8);
        Check.index("society -1", () -> x.cut(-1, 0, 1, 1, 1, 1));
        Check.index("society 1", () -> x.cut(1, 0, 1, 1, 1, 1));
        Check.index("float -1", () -> x.cut(0, -1, 1, 1, 1, 1));
        Check.index("float 1, ahead of the width", () -> x.cut(0, 1, 0, 1, 1, 1));
        Check.argument("width 0", () -> x.cut(0, 0, 0, 6, 7, 8));
        Check.argument("width 6", () -> x.cut(0, 0, 6, 6, 7, 8));
        Check.argument("height 0", () -> x.cut(0, 0, 5, 0, 7, 8));
        Check.argument("height 7", () -> x.cut(0, 0, 5, 7, 7, 8));
        Check.argument("weight 0", () -> x.cut(0, 0, 5, 6, 0, 8));
        Check.argument("weight 8", () -> x.cut(0, 0, 5, 6, 8, 8));
        Check.argument("length 0", () -> x.cut(0, 0, 5, 6, 7, 0));
        Check.argument("length 9", () -> x.cut(0, 0, 1, 1, 1, 9));
        Check.is("nothing was cut", 0, x.cut(0, 0, 5, 6, 7, 8));
        x.route(0, 0);
        x.goOn(0, 1);
        x.enter(0, 0);
        Check.state("it has entered", () -> x.cut(0, 0, 1, 1, 1, 1));
        Check.argument("range ahead of that", () -> x.cut(0, 0, 0, 1, 1, 1));
        Check.index("the float ahead of that", () -> x.cut(0, 1, 1, 1, 1, 1));
        x.begin(0, 1, 200);
        Check.is("nothing was cut", 8, x.part(0, 0, 3));
        x.march(0, 60);
        x.endYear();
        Check.index("floats are gone", () -> x.cut(0, 0, 1, 1, 1, 1));
    }

    private static void fits() {
        Floatparade x = new Floatparade();
        x.society(1, 1);
        x.street(0, 1, 2, 10, 9, 8);
        x.street(1, 2, 2, 12, 7, 9);
        x.build(0, 8, 6, 8, 20);
        Check.is("no route", false, x.fits(0, 0));
        x.route(1, 0);
        Check.is("no street in the route", false, x.fits(0, 0));
        x.goOn(1, 1);
        Check.is("width 2 less, load the same", true, x.fits(0, 0));
        x.route(0, 0);
        x.build(0, 9, 1, 1, 1);
        Check.is("only 1 less in width", false, x.fits(0, 1));
        x.build(0, 1, 8, 9, 1);
        Check.is("height 1 less, but too heavy", false, x.fits(0, 2));
        x.cut(0, 2, 1, 8, 8, 1);
        Check.is("height 1 less", true, x.fits(0, 2));
        x.goOn(1, 2);
        Check.is("the wires of the second street", false, x.fits(0, 2));
        Check.is("the first one fits both", true, x.fits(0, 0));
        x.route(1, 2);
        x.goOn(1, 1);
        Check.is("the second street alone: height 7 is not enough below 7", false, x.fits(0, 2));
        x.cut(0, 2, 1, 6, 8, 1);
        Check.is("6 is", true, x.fits(0, 2));
        Check.is("9 in 12", true, x.fits(0, 1));
    }

    private static void fitsCorners() {
        Floatparade x = new Floatparade();
        x.society(0, 1);
        x.street(0, 1, 2, 4, 9, 9);
        x.street(1, 2, 2, 5, 9, 9);
        x.street(2, 3, 2, 3, 9, 9);
        x.build(0, 1, 1, 1, 9);
        x.build(0, 1, 1, 1, 8);
        x.build(0, 1, 1, 1, 20);
        x.route(0, 0);
        x.goOn(0, 1);
        Check.is("no corner between two streets", true, x.fits(0, 2));
        x.goOn(0, 2);
        Check.is("both widths together", true, x.fits(0, 0));
        Check.is("longer", false, x.fits(0, 2));
        x.goOn(0, 3);
        Check.is("the second corner is narrower", false, x.fits(0, 0));
        Check.is("8 goes round it", true, x.fits(0, 1));
    }

    private static void fitsWrong() {
        Floatparade x = withRow(1);
        x.society(0, 1);
        x.society(1, 1);
        x.build(0, 1, 1, 1, 1);
        x.build(1, 1, 1, 1, 1);
        x.route(0, 0);
        x.goOn(0, 1);
        Check.is("its own league's route", true, x.fits(0, 0));
        Check.is("not that of the other league", false, x.fits(1, 0));
        Check.index("society -1", () -> x.fits(-1, 0));
        Check.index("society 2", () -> x.fits(2, 0));
        Check.index("float -1", () -> x.fits(0, -1));
        Check.index("float 1", () -> x.fits(0, 1));
    }
}
