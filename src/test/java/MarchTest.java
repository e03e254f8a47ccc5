/** Promises 18 to 24: begin, stop, rain, ambulance, march, part, clock. */
public final class MarchTest {
    public static void main(String[] args) {
        line();
        wings();
        beginWrong();
        walk();
        waitsForThePartAhead();
        clocks();
        rain();
        stop();
        stopWrong();
        jury();
        juryAtTheEnds();
        juryNotReached();
        juryAndStop();
        ambulance();
        ambulanceAtTheEnds();
        ambulanceCounts();
        ambulanceOfEachMarch();
        ambulanceWrong();
        gaps();
        gapOfSix();
        gapsOfLaterParts();
        noGapsBetweenSocieties();
        marchWrong();
        partWrong();
        clockWrong();
        penaltiesOfTheMarch();
        newYear();
        heldNoMoreInANewYear(11, 0);
        heldNoMoreInANewYear(0, 11);
        Check.finish("MarchTest");
    }

    /** Streets from corner to corner with these lengths, the route of the league 0, and backwards of the league 1. */
    private static Floatparade city(int... lengths) {
        Floatparade x = new Floatparade();
        for (int i = 0; i < lengths.length; i++) {
            x.street(i, i + 1, lengths[i], 30, 30, 99);
        }
        x.route(0, 0);
        x.route(1, lengths.length);
        for (int i = 1; i <= lengths.length; i++) {
            x.goOn(0, i);
            x.goOn(1, lengths.length - i);
        }
        return x;
    }

    /** Founds a society of the league 0 with these floats, and lets it enter. */
    private static void enters(Floatparade x, int members, int... floats) {
        int number = x.society(0, members);
        for (int length : floats) {
            x.build(number, 1, 1, 1, length);
        }
        x.enter(number, 0);
    }

    /** Lets a minute go by, and looks at the fronts then. */
    private static void minute(Floatparade x, int minute, int... fronts) {
        Check.is("march(0, 1)", minute, x.march(0, 1));
        for (int i = 0; i < fronts.length; i++) {
            Check.is("minute " + minute + ", front of part " + i, fronts[i], x.part(0, i, 2));
        }
    }

    private static void line() {
        Floatparade x = city(10);
        x.society(0, 200);
        x.society(0, 10);
        x.build(1, 1, 1, 1, 4);
        x.build(1, 1, 1, 1, 20);
        x.enter(0, 5);
        x.enter(1, 4);
        Check.is("parts", 5, x.begin(0, 1, 1));
        int[][] due = {{1, 0, -1, 4, 0}, {1, -1, -1, 2, 0}, {1, 1, -1, 20, 0}, {1, -1, -1, 2, 0}, {0, -1, -1, 9, 0}};
        for (int part = 0; part < 5; part++) {
            for (int what = 0; what < 5; what++) {
                Check.is("part(0, " + part + ", " + what + ")", due[part][what], x.part(0, part, what));
            }
        }
        Check.index("a sixth", () -> x.part(0, 5, 0));
    }

    private static void wings() {
        int[] members = {1, 9, 10, 79, 80, 89, 90, 200};
        int[] cells = {1, 1, 2, 8, 9, 9, 9, 9};
        Floatparade x = city(10);
        for (int count : members) {
            enters(x, count);
        }
        Check.is("parts", 8, x.begin(0, 200, 200));
        for (int i = 0; i < cells.length; i++) {
            Check.is("wing of " + members[i], cells[i], x.part(0, i, 3));
        }
        Floatparade y = city(10);
        for (int i = 0; i < 10; i++) {
            enters(y, 1, 1, 1, 1);
        }
        Check.is("the longest line", 60, y.begin(0, 1, 200));
        Check.is("its last part", 9, y.part(0, 59, 0));
        Check.is("the last float", 2, y.part(0, 58, 1));
        minute(y, 1, 1, -1, -1);
        minute(y, 2, 3, 1, -1);
        minute(y, 3, 5, 3, 1);
        // each part comes to the cell 1 a minute after the one ahead: the last one in the minute 60
        Check.is("no end yet", 63, y.march(0, 60));
        Check.is("the last float", 9, y.part(0, 58, 2));
        Check.is("the last wing", 7, y.part(0, 59, 2));
        Check.is("the float is out, so the wing has its 3 cells", 64, y.march(0, 1));
        Check.is("the last wing", 10, y.part(0, 59, 2));
        Check.state("the end", () -> y.march(0, 1));
    }

    private static void beginWrong() {
        Floatparade x = city(10);
        x.society(0, 1);
        x.society(1, 1);
        Check.state("none has entered", () -> x.begin(0, 1, 200));
        x.enter(0, 0);
        Check.argument("league -1", () -> x.begin(-1, 1, 200));
        Check.argument("league 2", () -> x.begin(2, 1, 200));
        Check.argument("least 0", () -> x.begin(0, 0, 200));
        Check.argument("least 201", () -> x.begin(0, 201, 201));
        Check.argument("most below least", () -> x.begin(0, 5, 4));
        Check.argument("most 201", () -> x.begin(0, 5, 201));
        Check.state("none of the league 1", () -> x.begin(1, 1, 200));
        Check.argument("range ahead of that", () -> x.begin(1, 0, 200));
        Check.state("nothing has begun", () -> x.part(0, 0, 0));
        Check.is("least and most the same", 1, x.begin(0, 200, 200));
        Check.state("it has begun", () -> x.begin(0, 1, 200));
        x.march(0, 60);
        Check.state("it has begun, and ended", () -> x.begin(0, 1, 200));
        Check.is("200 was the least: 4 minutes", 2 * 196, x.penaltyAt(0, 0, 1));
    }

    private static void walk() {
        Floatparade x = city(10, 10);
        enters(x, 25, 4);
        x.begin(0, 1, 200);
        minute(x, 1, 1, -1);
        minute(x, 2, 3, -1);
        minute(x, 3, 5, 0);
        minute(x, 4, 7, 2);
        Check.is("some at once", 10, x.march(0, 6));
        Check.is("float", 19, x.part(0, 0, 2));
        Check.is("wing", 14, x.part(0, 1, 2));
        minute(x, 11, 21, 16);
        Check.is("its tail is on the route", 0, x.part(0, 0, 4));
        minute(x, 12, 23, 19);
        Check.is("out, with its tail behind the last cell", 1, x.part(0, 0, 4));
        Check.is("the wing is not", 0, x.part(0, 1, 4));
        Check.is("to the end", 13, x.march(0, 60));
        Check.is("what is out stays there", 23, x.part(0, 0, 2));
        Check.is("the wing", 22, x.part(0, 1, 2));
        Check.is("the wing is out", 1, x.part(0, 1, 4));
    }

    private static void waitsForThePartAhead() {
        Floatparade x = city(20);
        enters(x, 1);
        enters(x, 1);
        x.begin(0, 1, 200);
        minute(x, 1, 2, 0);
        x.stop(0, 0, 2);
        minute(x, 2, 2, 0);
        minute(x, 3, 2, 0);
        minute(x, 4, 5, 3);
        x.stop(0, 1, 1);
        minute(x, 5, 8, 3);
        minute(x, 6, 11, 6);
        minute(x, 7, 14, 9);
    }

    private static void clocks() {
        Floatparade x = city(10);
        enters(x, 80);
        enters(x, 1);
        for (int society = 0; society < 2; society++) {
            Check.is("began, ahead of the march", -1, x.clock(society, 0));
            Check.is("out, ahead of the march", -1, x.clock(society, 1));
            Check.is("gaps, ahead of the march", 0, x.clock(society, 2));
            Check.is("time, ahead of the march", -1, x.clock(society, 3));
        }
        x.begin(0, 1, 200);
        Check.is("began, not a minute", -1, x.clock(0, 0));
        minute(x, 1, 2, -1);
        Check.is("0 began", 1, x.clock(0, 0));
        Check.is("1 did not", -1, x.clock(1, 0));
        minute(x, 2, 5, -1);
        minute(x, 3, 8, -1);
        minute(x, 4, 11, 1);
        Check.is("1 began", 4, x.clock(1, 0));
        minute(x, 5, 14, 4);
        minute(x, 6, 17, 7);
        Check.is("its tail is at the last cell", -1, x.clock(0, 1));
        Check.is("no time yet", -1, x.clock(0, 3));
        Check.is("both out", 7, x.march(0, 60));
        Check.is("0 began", 1, x.clock(0, 0));
        Check.is("0 was out", 7, x.clock(0, 1));
        Check.is("0 took", 7, x.clock(0, 3));
        Check.is("1 was out", 7, x.clock(1, 1));
        Check.is("1 took", 4, x.clock(1, 3));
    }

    private static void rain() {
        Floatparade x = city(30);
        enters(x, 1);
        enters(x, 1, 1);
        x.begin(0, 1, 200);
        minute(x, 1, 2, 0, -1);
        Check.is("it did not rain", false, x.rain(true));
        minute(x, 2, 4, 2, 0);
        minute(x, 3, 6, 4, 2);
        Check.is("it rained", true, x.rain(true));
        Check.is("it rained", true, x.rain(false));
        minute(x, 4, 9, 6, 4);
        Check.is("it did not rain", false, x.rain(false));
        minute(x, 5, 12, 8, 6);
    }

    private static void stop() {
        Floatparade x = city(30);
        enters(x, 1);
        x.begin(0, 1, 200);
        Check.is("ahead of the first minute", 1, x.stop(0, 0, 1));
        minute(x, 1, -1);
        minute(x, 2, 2);
        Check.is("greatest", 20, x.stop(0, 0, 20));
        Check.is("more", 40, x.stop(0, 0, 20));
        minute(x, 3, 2);
        Check.is("a minute less, and more", 40, x.stop(0, 0, 1));
        Check.is("all of them", 43, x.march(0, 40));
        Check.is("it did not move", 2, x.part(0, 0, 2));
        minute(x, 44, 5);
        Check.is("none is left", 3, x.stop(0, 0, 3));
        Check.is("began when its front was on the route", 2, x.clock(0, 0));
    }

    private static void stopWrong() {
        Floatparade x = city(4);
        Check.state("no march", () -> x.stop(0, 0, 1));
        enters(x, 1);
        enters(x, 1);
        Check.state("no march begun", () -> x.stop(0, 0, 1));
        x.begin(0, 1, 200);
        Check.argument("league -1", () -> x.stop(-1, 0, 1));
        Check.argument("league 2", () -> x.stop(2, 0, 1));
        Check.argument("minutes 0, ahead of the part", () -> x.stop(0, 9, 0));
        Check.argument("minutes 21", () -> x.stop(0, 0, 21));
        Check.argument("minutes ahead of the march", () -> x.stop(1, 0, 21));
        Check.state("no march of the league 1, ahead of the part", () -> x.stop(1, -1, 1));
        Check.index("part -1", () -> x.stop(0, -1, 1));
        Check.index("part 2", () -> x.stop(0, 2, 1));
        minute(x, 1, 2, 0);
        minute(x, 2, 5, 3);
        Check.index("it is out", () -> x.stop(0, 0, 1));
        Check.is("the other one is not", 1, x.stop(0, 1, 1));
        minute(x, 3, 5, 3);
        minute(x, 4, 5, 6);
        Check.state("the march has ended, ahead of the part", () -> x.stop(0, 0, 1));
    }

    private static void jury() {
        Floatparade x = city(10, 10);
        x.jury(1, true);
        enters(x, 1);
        x.begin(0, 1, 200);
        minute(x, 1, 2);
        minute(x, 2, 5);
        minute(x, 3, 8);
        minute(x, 4, 10);
        x.jury(1, false);
        minute(x, 5, 10);
        minute(x, 6, 13);

        Floatparade y = city(5, 5, 10);
        y.jury(1, true);
        y.jury(2, true);
        enters(y, 1);
        y.begin(0, 1, 200);
        minute(y, 1, 2);
        minute(y, 2, 5);
        minute(y, 3, 5);
        y.jury(1, false);
        y.jury(1, true);
        minute(y, 4, 8);
        minute(y, 5, 10);
        minute(y, 6, 10);
        y.jury(1, true);
        minute(y, 7, 13);
    }

    private static void juryAtTheEnds() {
        Floatparade x = city(5, 10);
        x.jury(0, true);
        x.jury(2, true);
        x.jury(11, true);
        enters(x, 1);
        x.begin(0, 1, 200);
        minute(x, 1, 0);
        Check.is("its front is on the cell 0", 1, x.clock(0, 0));
        Check.is("its only cell is", 1, x.ambulance(0));
        minute(x, 2, 0);
        minute(x, 3, 3);
        minute(x, 4, 6);
        minute(x, 5, 9);
        minute(x, 6, 12);
        minute(x, 7, 14);
        minute(x, 8, 14);
        minute(x, 9, 17);
        Check.state("out", () -> x.march(0, 1));

        Floatparade y = city(1);
        y.jury(0, true);
        y.jury(1, true);
        enters(y, 1);
        y.begin(0, 1, 200);
        minute(y, 1, 0);
        minute(y, 2, 0);
        minute(y, 3, 3);
    }

    private static void juryNotReached() {
        Floatparade x = city(7, 10);
        enters(x, 1);
        enters(x, 1);
        x.begin(0, 1, 200);
        minute(x, 1, 2, 0);
        minute(x, 2, 5, 3);
        minute(x, 3, 8, 6);
        x.jury(1, true);
        x.stop(0, 0, 2);
        minute(x, 4, 8, 6);
        minute(x, 5, 8, 6);
        minute(x, 6, 11, 7);
        minute(x, 7, 14, 7);
        minute(x, 8, 17, 10);
    }

    private static void juryAndStop() {
        Floatparade x = city(5, 20);
        x.jury(1, true);
        enters(x, 1);
        x.begin(0, 1, 200);
        x.march(0, 2);
        x.stop(0, 0, 1);
        minute(x, 3, 5);
        minute(x, 4, 8);
    }

    private static void ambulance() {
        Floatparade x = city(10, 20);
        enters(x, 1);
        x.begin(0, 1, 200);
        x.march(0, 3);
        Check.is("none is on it", 0, x.ambulance(1));
        minute(x, 4, 9);
        Check.is("held still", 0, x.ambulance(1));
        minute(x, 5, 9);
        minute(x, 6, 9);
        x.rain(true);
        minute(x, 7, 11);

        Floatparade y = city(10, 20);
        enters(y, 1);
        y.begin(0, 1, 200);
        y.march(0, 3);
        y.rain(true);
        y.ambulance(1);
        minute(y, 4, 9);
        minute(y, 5, 9);
        y.jury(1, true);
        minute(y, 6, 10);
        Check.is("its front is on it", 1, y.ambulance(1));
        minute(y, 7, 10);
        minute(y, 8, 12);

        Floatparade z = city(6, 20);
        enters(z, 25);
        z.begin(0, 1, 200);
        z.march(0, 2);
        z.ambulance(1);
        z.jury(1, true);
        minute(z, 3, 5);
        minute(z, 4, 5);
        minute(z, 5, 6);
        minute(z, 6, 6);
        Check.is("its front is on it", 1, z.ambulance(1));
        z.rain(true);
        minute(z, 7, 8);
        Check.is("its tail is on it", 1, z.ambulance(1));
        minute(z, 8, 10);
        Check.is("it is behind it", 0, z.ambulance(1));
    }

    private static void ambulanceAtTheEnds() {
        Floatparade x = city(10, 10);
        enters(x, 1);
        x.begin(0, 1, 200);
        Check.is("none has a cell on the route", 0, x.ambulance(0));
        minute(x, 1, -1);
        minute(x, 2, -1);
        minute(x, 3, 2);
        Check.is("began", 3, x.clock(0, 0));
        x.march(0, 5);
        Check.is("17", 17, x.part(0, 0, 2));
        Check.is("the last corner is at the last cell", 0, x.ambulance(2));
        minute(x, 9, 18);
        minute(x, 10, 18);
        minute(x, 11, 21);
        Check.is("time", 9, x.clock(0, 3));
    }

    private static void ambulanceCounts() {
        Floatparade x = city(10, 10);
        enters(x, 50);
        x.society(1, 50);
        x.enter(1, 0);
        x.begin(0, 1, 200);
        x.march(0, 4);
        Check.is("front 11, tail 6", 1, x.ambulance(1));
        x.begin(1, 1, 200);
        x.march(1, 4);
        Check.is("both marches", 2, x.ambulance(1));
        Check.is("the first corner of the one, the last one of the other", 0, x.ambulance(0));
        Check.is("not on a route", 0, x.ambulance(7));
        x.march(0, 60);
        Check.is("only one goes on", 1, x.ambulance(1));
        x.march(1, 60);
        Check.is("none goes on", 0, x.ambulance(1));
    }

    private static void ambulanceOfEachMarch() {
        Floatparade x = city(10, 10);
        enters(x, 1);
        x.society(1, 1);
        x.society(1, 1);
        x.enter(1, 0);
        x.begin(0, 1, 200);
        x.march(0, 3);
        x.ambulance(1);
        x.begin(1, 1, 200);
        x.march(1, 3);
        Check.is("it was not held in a march that had not begun", 4, x.march(1, 1));
        Check.is("so it came over it", 11, x.part(1, 0, 2));
        minute(x, 4, 9);
        minute(x, 5, 9);
        minute(x, 6, 12);
        x.ambulance(0);
        Check.is("it has gone by", 7, x.march(0, 1));
        Check.is("at 15", 15, x.part(0, 0, 2));
        x.march(0, 60);
        Check.is("the minutes of the other march are its own", 6, x.march(1, 2));
        Check.is("at 17", 17, x.part(1, 0, 2));
        x.ambulance(0);
        Check.is("to 18", 7, x.march(1, 1));
        Check.is("at 18", 18, x.part(1, 0, 2));
    }

    private static void ambulanceWrong() {
        Floatparade x = city(10, 10);
        Check.index("corner -1", () -> x.ambulance(-1));
        Check.index("corner 12", () -> x.ambulance(12));
        Check.is("no march", 0, x.ambulance(1));
        enters(x, 1);
        Check.is("a march that has not begun", 0, x.ambulance(0));
        x.begin(0, 1, 200);
        minute(x, 1, 2);
    }

    private static void gaps() {
        Floatparade x = city(20);
        enters(x, 25, 4);
        x.begin(0, 1, 200);
        x.march(0, 3);
        x.stop(0, 1, 5);
        int[] due = {0, 0, 1, 2, 3, 4, 5, 5, 5, 5, 5, 5};
        for (int i = 0; i < due.length; i++) {
            x.march(0, 1);
            Check.is("gaps in minute " + (4 + i), due[i], x.clock(0, 2));
        }
        Check.is("the last minute", 16, x.march(0, 60));
        Check.is("one penalty", 1, x.about(0, 8));
        Check.is("by the paragraph", 3, x.penaltyAt(0, 0, 0));
        Check.is("1 each", 5, x.penaltyAt(0, 0, 1));
    }

    private static void gapOfSix() {
        Floatparade x = city(30);
        x.jury(0, true);
        enters(x, 25, 4);
        x.begin(0, 1, 200);
        x.march(0, 4);
        minute(x, 5, 6, 0);
        x.stop(0, 1, 3);
        minute(x, 6, 8, 0);
        minute(x, 7, 10, 0);
        Check.is("6 cells are free", 0, x.clock(0, 2));
        minute(x, 8, 12, 0);
        Check.is("8 cells are free", 1, x.clock(0, 2));
        x.stop(0, 0, 1);
        minute(x, 9, 12, 3);
        x.march(0, 60);
        Check.is("no more gaps", 1, x.clock(0, 2));
        Check.is("one costs a penalty", 1, x.about(0, 8));
        Check.is("of paragraph 3", 3, x.penaltyAt(0, 0, 0));
        Check.is("of 1", 1, x.penaltyAt(0, 0, 1));
        x.endYear();
        Check.is("gaps are gone", 0, x.clock(0, 2));
        x.enter(0, 0);
        x.begin(0, 1, 200);
        x.march(0, 60);
        Check.is("no penalty for old gaps", 0, x.about(0, 8));
    }

    private static void gapsOfLaterParts() {
        Floatparade x = city(30);
        enters(x, 1, 1, 1);
        x.begin(0, 1, 200);
        x.march(0, 3);
        minute(x, 4, 7, 5, 3, 1);
        x.stop(0, 2, 3);
        minute(x, 5, 9, 7, 3, 1);
        minute(x, 6, 11, 9, 3, 1);
        Check.is("5 cells are free", 0, x.clock(0, 2));
        minute(x, 7, 13, 11, 3, 1);
        Check.is("7 cells are free", 1, x.clock(0, 2));
        minute(x, 8, 15, 13, 5, 3);
        x.march(0, 7);
        Check.is("the front of the one ahead is 27", 9, x.clock(0, 2));
        minute(x, 16, 31, 30, 21, 19);
        Check.is("it is behind the last cell", 9, x.clock(0, 2));
        Check.is("the end", 21, x.march(0, 60));
        Check.is("gaps", 9, x.clock(0, 2));
        Check.is("time", 21, x.clock(0, 3));
    }

    private static void noGapsBetweenSocieties() {
        Floatparade x = city(30);
        enters(x, 1);
        enters(x, 1);
        x.begin(0, 1, 200);
        x.march(0, 1);
        x.stop(0, 1, 20);
        x.march(0, 60);
        Check.is("0", 0, x.clock(0, 2));
        Check.is("1", 0, x.clock(1, 2));
        Check.is("0 has no penalty", 0, x.about(0, 8));
    }

    private static void marchWrong() {
        Floatparade x = city(30, 30, 30);
        enters(x, 1);
        Check.state("it has not begun", () -> x.march(0, 1));
        x.begin(0, 1, 200);
        Check.argument("league -1", () -> x.march(-1, 1));
        Check.argument("league 2", () -> x.march(2, 1));
        Check.argument("minutes 0", () -> x.march(0, 0));
        Check.argument("minutes 61", () -> x.march(0, 61));
        Check.argument("minutes ahead of the march", () -> x.march(1, 61));
        Check.state("no march of the league 1", () -> x.march(1, 60));
        minute(x, 1, 2);
        Check.is("until it ends", 31, x.march(0, 60));
        Check.state("it has ended", () -> x.march(0, 1));
        Check.argument("minutes ahead of that", () -> x.march(0, 0));
    }

    private static void partWrong() {
        Floatparade x = city(3);
        enters(x, 1);
        Check.state("it has not begun, ahead of the part", () -> x.part(0, 1, 0));
        Check.argument("what ahead of that", () -> x.part(0, 1, 5));
        x.begin(0, 1, 200);
        Check.argument("league -1", () -> x.part(-1, 0, 0));
        Check.argument("league 2", () -> x.part(2, 0, 0));
        Check.argument("what -1", () -> x.part(0, 0, -1));
        Check.argument("what 5, ahead of the part", () -> x.part(0, 7, 5));
        Check.index("part -1", () -> x.part(0, -1, 0));
        Check.index("part 1", () -> x.part(0, 1, 0));
        Check.state("the league 1", () -> x.part(1, 0, 0));
        x.march(0, 60);
        Check.is("it has begun, and ended", 1, x.part(0, 0, 4));
    }

    private static void clockWrong() {
        Floatparade x = city(3);
        Check.index("none", () -> x.clock(0, 0));
        enters(x, 1);
        x.society(0, 1);
        Check.index("society -1", () -> x.clock(-1, 0));
        Check.index("society 2, ahead of what", () -> x.clock(2, 4));
        Check.argument("what -1", () -> x.clock(0, -1));
        Check.argument("what 4", () -> x.clock(0, 4));
        x.begin(0, 1, 200);
        x.march(0, 60);
        int[] due = {-1, -1, 0, -1};
        for (int what = 0; what < 4; what++) {
            Check.is("one that was not in it, " + what, due[what], x.clock(1, what));
        }
    }

    private static void penaltiesOfTheMarch() {
        int[][] times = {{7, 7}, {4, 4}, {1, 200}, {9, 20}, {1, 2}};
        // paragraph and tenths of the societies, which take 7 and 4 minutes
        int[][] due = {{0, 0, 1, 6}, {2, 6, 0, 0}, {0, 0, 0, 0}, {1, 4, 1, 10}, {2, 10, 2, 4}};
        for (int i = 0; i < times.length; i++) {
            Floatparade x = city(10);
            enters(x, 80);
            enters(x, 1);
            x.begin(0, times[i][0], times[i][1]);
            x.march(0, 6);
            Check.is("none ahead of the end", 0, x.about(0, 8));
            x.march(0, 60);
            for (int society = 0; society < 2; society++) {
                int paragraph = due[i][2 * society];
                int number = society;
                Check.is("penalties", paragraph == 0 ? 0 : 1, x.about(society, 8));
                if (paragraph > 0) {
                    Check.is("paragraph", paragraph, x.penaltyAt(society, 0, 0));
                    Check.is("tenths", due[i][2 * society + 1], x.penaltyAt(society, 0, 1));
                    Check.is("not appealed", 0, x.penaltyAt(society, 0, 2));
                    Check.is("points", -due[i][2 * society + 1], x.about(society, 5));
                } else {
                    Check.index("no penalty", () -> x.penaltyAt(number, 0, 0));
                }
            }
        }
        Floatparade x = city(20);
        enters(x, 25, 4);
        x.begin(0, 1, 10);
        x.march(0, 3);
        x.stop(0, 1, 5);
        x.march(0, 60);
        Check.is("two", 2, x.about(0, 8));
        Check.is("by the order of paragraphs", 2, x.penaltyAt(0, 0, 0));
        Check.is("6 minutes more", 12, x.penaltyAt(0, 0, 1));
        Check.is("by the order of paragraphs", 3, x.penaltyAt(0, 1, 0));
        Check.is("5 gaps", 5, x.penaltyAt(0, 1, 1));
    }

    private static void heldNoMoreInANewYear(int first, int last) {
        Floatparade x = new Floatparade();
        x.street(0, 11, 6, 30, 30, 99);
        x.route(0, first);
        x.goOn(0, last);
        enters(x, 1);
        x.begin(0, 1, 200);
        Check.is("the first corner", 0, x.ambulance(first));
        minute(x, 1, -1);
        minute(x, 2, -1);
        minute(x, 3, 2);
        minute(x, 4, 5);
        Check.is("the last corner", 1, x.ambulance(last));
        Check.is("the first corner", 0, x.ambulance(first));
        minute(x, 5, 8);
        x.endYear();
        x.enter(0, 0);
        x.begin(0, 1, 200);
        minute(x, 1, 2);
        minute(x, 2, 5);
        minute(x, 3, 8);
    }

    private static void newYear() {
        Floatparade x = city(5, 5);
        enters(x, 1, 2);
        x.jury(1, true);
        x.begin(0, 1, 200);
        x.rain(true);
        x.march(0, 3);
        x.ambulance(2);
        x.stop(0, 1, 20);
        x.march(0, 60);
        x.ambulance(0);
        x.endYear();
        Check.state("the march is gone", () -> x.part(0, 0, 0));
        Check.state("the march is gone", () -> x.stop(0, 0, 1));
        Check.state("the march is gone", () -> x.march(0, 1));
        int[] due = {-1, -1, 0, -1};
        for (int what = 0; what < 4; what++) {
            Check.is("clock " + what, due[what], x.clock(0, what));
        }
        x.enter(0, 0);
        Check.is("a wing alone", 1, x.begin(0, 1, 200));
        minute(x, 1, 1);
        Check.is("it rained still", true, x.rain(false));
        minute(x, 2, 4);
        minute(x, 3, 5);
        minute(x, 4, 5);
        minute(x, 5, 8);
        minute(x, 6, 11);
        Check.is("time", 6, x.clock(0, 3));
        Check.is("gaps", 0, x.clock(0, 2));
    }
}
