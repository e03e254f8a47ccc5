import java.util.Arrays;

/** Promises 18 to 24, and what the terms say of the march: the edges, sentence by sentence. */
public final class EdgesOfMarchTest {
    public static void main(String[] args) throws IllegalAccessException {
        Check.all(EdgesOfMarchTest.class);
    }

    /** Lets a minute go by, and looks at the fronts of the first parts then. */
    private static void minute(Floatparade x, int minute, int... fronts) {
        Check.is("march(0, 1)", minute, x.march(0, 1));
        for (int i = 0; i < fronts.length; i++) {
            Check.is("minute " + minute + ", front of part " + i, fronts[i], x.part(0, i, 2));
        }
    }

    /** Lets the first part of the league 0, a wing at the start, come to a cell by 3 each minute, and by 2 in rain. */
    private static void bring(Floatparade x, int cell) {
        int slow = 0;
        while ((cell + 1 - 2 * slow) % 3 != 0) {
            slow++;
        }
        for (int i = 0; i < (cell + 1 - 2 * slow) / 3; i++) {
            x.march(0, 1);
        }
        x.rain(true);
        for (int i = 0; i < slow; i++) {
            x.march(0, 1);
        }
        x.rain(false);
        Check.is("front ahead of the test", cell, x.part(0, 0, 2));
    }

    /** The corner 1 is at the cell 10, the corner 2 at 29; a wing alone has its front at a cell. */
    private static Floatparade wingAt(int cell, int members) {
        Floatparade x = City.ofStreets(10, 20);
        City.enters(x, members);
        x.begin(0, 1, 200);
        bring(x, cell);
        return x;
    }

    // ---- promise 18: begin

    /** Promise 18: "league: 0 or 1" */
    static void leagueOfABeginning() {
        Refused.argumentBeyond("league", 0, 1, City::entered, (x, league) -> x.begin(league, 1, 200));
    }

    /** Promise 18: "least: 1 to 200 minutes" */
    static void leastOfABeginning() {
        Refused.argumentBeyond("least", 1, 200, City::entered, (x, least) -> x.begin(0, least, 200));
    }

    /** Promise 18: "most: least to 200" The least may be the most. */
    static void mostOfABeginning() {
        Refused.argumentBeyond("most", 50, 200, City::entered, (x, most) -> x.begin(0, 50, most));
        Refused.argumentBeyond("most", 1, 200, City::entered, (x, most) -> x.begin(0, 1, most));
        Refused.argumentBeyond("most", 200, 200, City::entered, (x, most) -> x.begin(0, 200, most));
    }

    /** Promise 18: "Throws IllegalStateException if it has begun, or none has entered" */
    static void beginningIsBound() {
        Refused.state("none has entered", City::preparing, x -> x.begin(0, 1, 200));
        Refused.state("no society", City::empty, x -> x.begin(1, 1, 200));
        Refused.state("it goes on", City::marching, x -> x.begin(0, 1, 200));
        Refused.state("it has ended", City::judged, x -> x.begin(1, 1, 200));
        Floatparade x = City.ofLeagues(0, 1);
        x.enter(0, 5);
        Check.state("one of the other league alone has entered", () -> x.begin(1, 1, 200));
        Check.is("one part", 1, x.begin(0, 1, 200));
        x.enter(1, 5);
        Check.is("the other one has begun", 1, x.begin(1, 1, 200));
    }

    /** Promise 18: "Throws IllegalArgumentException if an argument is out of range": ahead of the state. */
    static void whichOfABeginning() {
        Refused.argument("no league", City::preparing, x -> x.begin(2, 1, 200));
        Refused.argument("no least, none entered", City::preparing, x -> x.begin(0, 0, 200));
        Refused.argument("no most, begun", City::marching, x -> x.begin(0, 5, 4));
        Refused.argument("no most, ended", City::judged, x -> x.begin(0, 5, 201));
    }

    /**
     * Promise 18: "Begins the march of a league." "Returns how many parts the line has." Terms: "The line are the parts
     * of the societies in their order: for each its floats, each followed by a wing, or a wing alone without floats;"
     */
    static void partsOfTheLine() {
        int[] due = {1, 2, 4, 6};
        for (int floats = 0; floats <= 3; floats++) {
            Floatparade x = City.ofStreets(30);
            int[] lengths = {5, 6, 7};
            City.enters(x, 1, Arrays.copyOf(lengths, floats));
            int parts = due[floats];
            Check.is("parts with floats: " + floats, parts, x.begin(0, 1, 200));
            for (int part = 0; part < parts; part++) {
                boolean isFloat = part % 2 == 0 && floats > 0;
                Check.is("float or wing, part " + part, isFloat ? part / 2 : -1, x.part(0, part, 1));
                Check.is("cells of part " + part, isFloat ? 5 + part / 2 : 1, x.part(0, part, 3));
            }
            Check.index("behind the last", () -> x.part(0, parts, 0));
        }
    }

    /**
     * Terms: "The line are the parts of the societies in their order:" The longest one: 10 societies, 3 floats each.
     */
    static void longestLine() {
        Floatparade x = City.ofStreets(2);
        for (int i = 0; i < 10; i++) {
            x.society(0, 1);
            for (int length = 1; length <= 3; length++) {
                x.build(i, 1, 1, 1, length);
            }
            x.enter(i, 9 - i);
        }
        Check.is("parts", 60, x.begin(0, 1, 200));
        for (int part = 0; part < 60; part++) {
            Check.is("society of part " + part, 9 - part / 6, x.part(0, part, 0));
            Check.is("float of part " + part, part % 2 == 0 ? part % 6 / 2 : -1, x.part(0, part, 1));
            Check.is("cells of part " + part, part % 2 == 0 ? 1 + part % 6 / 2 : 1, x.part(0, part, 3));
        }
        Check.index("a sixty-first", () -> x.part(0, 60, 0));
        City.toTheEnd(x, 0);
        Check.is("it comes to its end", 1, x.part(0, 59, 4));
    }

    /**
     * Terms: "a wing has as many cells as a tenth of the society's members, rounded down, and 1, together, but 9 at
     * most,"
     */
    static void cellsOfAWing() {
        int[] members = {1, 9, 10, 19, 20, 79, 80, 89, 90, 99, 100, 200};
        int[] due = {1, 1, 2, 2, 3, 8, 9, 9, 9, 9, 9, 9};
        for (int i = 0; i < members.length; i++) {
            Floatparade x = City.ofStreets(30);
            City.enters(x, members[i]);
            x.begin(0, 1, 200);
            Check.is("wing of " + members[i], due[i], x.part(0, 0, 3));
        }
    }

    /** Terms: "a float as many as its length." The shortest and the longest one. */
    static void cellsOfAFloat() {
        for (int length : new int[] {1, 20}) {
            Floatparade x = City.ofStreets(30);
            City.enters(x, 1, length);
            x.begin(0, 1, 200);
            Check.is("float", length, x.part(0, 0, 3));
        }
    }

    // ---- promise 19: stop

    /** Promise 19: "league: 0 or 1" "Throws IllegalArgumentException if league or minutes is out of range" */
    static void leagueOfAStop() {
        Refused.argumentBeyond("league", 0, 1, City::marching, (x, league) -> x.stop(league, 0, 5));
    }

    /** Promise 19: "minutes: 1 to 20, more" "Returns how many minutes it has to go then." */
    static void minutesOfAStop() {
        Refused.argumentBeyond("minutes", 1, 20, City::marching, (x, minutes) -> x.stop(0, 0, minutes));
        Floatparade x = City.marching();
        Check.is("of none", 20, x.stop(0, 0, 20));
        Check.is("more", 21, x.stop(0, 0, 1));
        Check.is("more", 41, x.stop(0, 0, 20));
        Check.is("another part has its own", 3, x.stop(0, 1, 1));
        Check.is("so has the other march", 1, x.stop(1, 0, 1));
    }

    /** Promise 19: "part: of the line, from 0" "Throws IndexOutOfBoundsException if there is no such part," */
    static void partOfAStop() {
        Refused.indexBeyond("part", 0, 5, City::marching, (x, part) -> x.stop(0, part, 5));
        Refused.indexBeyond("part", 0, 1, City::marching, (x, part) -> x.stop(1, part, 5));
    }

    /** Promise 19: "or it is out" With its tail at the last cell it is not out yet. */
    static void stopOfAPartThatIsOut() {
        for (int length = 1; length <= 2; length++) {
            Floatparade x = City.ofStreets(4);
            City.enters(x, 10 * (length - 1) + 1);
            City.enters(x, 1);
            x.begin(0, 1, 200);
            bring(x, 2 + length);
            Check.is("its tail is at the last cell", 1, x.stop(0, 0, 1));
            x.stop(0, 1, 5);
            x.march(0, 2);
            Check.is("out", 1, x.part(0, 0, 4));
            Check.index("out", () -> x.stop(0, 0, 1));
            Check.is("the last one is not", 4, x.stop(0, 1, 1));
        }
        Refused.index("out", EdgesOfMarchTest::withOneOut, x -> x.stop(0, 0, 1));
        Check.is("not out: 19 minutes, and 1 more", 20, withOneOut().stop(0, 1, 1));
    }

    private static Floatparade withOneOut() {
        Floatparade x = City.ofStreets(3);
        City.enters(x, 1);
        City.enters(x, 1);
        x.begin(0, 1, 200);
        x.march(0, 1);
        x.stop(0, 1, 20);
        x.march(0, 1);
        return x;
    }

    /** Promise 19: "Throws IllegalStateException if there is no march that goes on" */
    static void stopWithoutAMarch() {
        Refused.state("none has begun", City::empty, x -> x.stop(0, 0, 5));
        Refused.state("it has not begun", City::entered, x -> x.stop(0, 0, 5));
        Refused.state("it has ended", City::judged, x -> x.stop(0, 0, 5));
        Floatparade x = City.ofLeagues(0, 1);
        x.enter(0, 5);
        x.enter(1, 5);
        x.begin(1, 1, 200);
        Check.state("only the other one goes on", () -> x.stop(0, 0, 5));
        Check.is("the other one", 5, x.stop(1, 0, 5));
    }

    /** Promise 19: the first of the clause is the argument, then the state, then the index. */
    static void whichOfAStop() {
        Refused.argument("no minutes, no march", City::entered, x -> x.stop(0, 0, 0));
        Refused.argument("no league, no part", City::marching, x -> x.stop(2, 99, 5));
        Refused.argument("no minutes, no part", City::marching, x -> x.stop(0, -1, 21));
        Refused.argument("no minutes, no march, no part", City::judged, x -> x.stop(0, 99, 21));
        Refused.argument("no minutes, out", EdgesOfMarchTest::withOneOut, x -> x.stop(0, 0, 0));
        Refused.state("no march, no part", City::entered, x -> x.stop(0, -1, 5));
        Refused.state("no march, and it is out", City::judged, x -> x.stop(0, 0, 5));
    }

    /**
     * Promise 19: "Stops a part for some minutes." Terms: "none if it is stopped," "Then stops and held corners have a
     * minute less to go."
     */
    static void minutesThatAPartIsStopped() {
        for (int minutes : new int[] {1, 2, 20}) {
            Floatparade x = wingAt(5, 1);
            x.stop(0, 0, minutes);
            x.march(0, minutes);
            Check.is("stopped", 5, x.part(0, 0, 2));
            Check.is("none is left", 1, x.stop(0, 0, 1));
            x.march(0, 1);
            Check.is("stopped again", 5, x.part(0, 0, 2));
            x.march(0, 1);
            Check.is("on", 8, x.part(0, 0, 2));
        }
        Floatparade y = wingAt(5, 1);
        y.stop(0, 0, 3);
        y.march(0, 1);
        Check.is("a minute less, and 1 more", 3, y.stop(0, 0, 1));
    }

    // ---- promise 20: rain

    /** Promise 20: "Lets it rain, or not." "isOn: whether" "Returns whether it rained." */
    static void rainOnAndOff() {
        Floatparade x = new Floatparade();
        Check.is("it did not", false, x.rain(false));
        Check.is("it did not", false, x.rain(true));
        Check.is("it did", true, x.rain(true));
        Check.is("it did", true, x.rain(false));
        Check.is("it did not", false, x.rain(true));
    }

    /**
     * Terms: "In a minute each part that is not out, from the first one on, moves by as many cells as it can: 2, a wing
     * 3, but 2 in rain;"
     */
    static void cellsOfAMinute() {
        for (int floats = 0; floats < 2; floats++) {
            Floatparade x = City.ofStreets(30);
            City.enters(x, 1, floats == 0 ? new int[0] : new int[] {1});
            x.begin(0, 1, 200);
            int dry = floats == 0 ? 3 : 2;
            minute(x, 1, -1 + dry);
            x.rain(true);
            minute(x, 2, 1 + dry);
            minute(x, 3, 3 + dry);
            x.rain(false);
            minute(x, 4, 3 + 2 * dry);
        }
    }

    // ---- promise 21: ambulance

    /** Promise 21: "corner: a corner" "Throws IndexOutOfBoundsException if there is no such corner" */
    static void cornerOfAnAmbulance() {
        Refused.indexBeyond("corner", 0, 11, City::marching, (x, corner) -> x.ambulance(corner));
        Refused.index("no march", City::empty, x -> x.ambulance(12));
    }

    /**
     * Promise 21: "Lets an ambulance cross a corner." "Returns how many parts have cells on it in marches that go on."
     * Terms: "numbered from 0; a corner but the last one is at the cell with which the street behind it begins, the
     * last one at the last cell." A wing with 3 cells comes to each corner, is on it, and leaves it.
     */
    static void partsOnACorner() {
        int[][] fronts = {{1, 2, 3}, {9, 10, 12, 13}, {28, 29, 31}};
        int[][] due = {{1, 1, 0}, {0, 1, 1, 0}, {0, 1, 1}};
        for (int corner = 0; corner < 3; corner++) {
            for (int i = 0; i < fronts[corner].length; i++) {
                String what = "corner " + corner + ", front " + fronts[corner][i];
                Check.is(what, due[corner][i], wingAt(fronts[corner][i], 20).ambulance(corner));
            }
        }
        Floatparade x = City.ofStreets(10, 20);
        City.enters(x, 20);
        x.begin(0, 1, 200);
        Check.is("not on the route yet", 0, x.ambulance(0));
        Check.is("a corner off the route", 0, x.ambulance(7));
        Check.is("the last corner off the route", 0, x.ambulance(11));
    }

    /** Promise 21: "in marches that go on." Of two marches both; not one that has not begun, nor one that has ended. */
    static void partsOnACornerInBothMarches() {
        Floatparade x = City.ofStreets(3, 3);
        City.enters(x, 50);
        x.society(1, 50);
        x.enter(1, 0);
        Check.is("none has begun", 0, x.ambulance(1));
        x.begin(0, 1, 200);
        x.begin(1, 1, 200);
        x.jury(1, true);
        x.march(0, 4);
        x.march(1, 4);
        Check.is("both are on it", 2, x.ambulance(1));
        City.toTheEnd(x, 0);
        Check.is("one has ended", 1, x.ambulance(1));
        City.toTheEnd(x, 1);
        Check.is("both have ended", 0, x.ambulance(1));
    }

    /**
     * Promise 21: "how many parts have cells on it": the first of the line, or one behind it, or one ahead of the last.
     */
    static void eachPartOnACorner() {
        for (int part = 0; part < 3; part++) {
            Floatparade x = City.ofStreets(3, 27);
            City.enters(x, 1);
            City.enters(x, 1);
            City.enters(x, 1);
            x.begin(0, 1, 200);
            x.rain(true);
            x.march(0, 2 + part);
            Check.is("front of " + part, 3, x.part(0, part, 2));
            Check.is("the part " + part + " is on it", 1, x.ambulance(1));
        }
    }

    /**
     * Terms: "never to or over the cell of a corner that is held for an ambulance, if its front is ahead of that;"
     * The corner is at the cell 10.
     */
    static void heldCorner() {
        int[] fronts = {6, 7, 8, 9, 10, 11};
        int[] due = {9, 9, 9, 9, 13, 14};
        for (int i = 0; i < fronts.length; i++) {
            Floatparade x = wingAt(fronts[i], 1);
            x.ambulance(1);
            x.march(0, 1);
            Check.is("front from " + fronts[i], due[i], x.part(0, 0, 2));
        }
    }

    /** Terms: "the last one at the last cell." The first corner is at the cell 0; both can be held. */
    static void heldCornersAtTheEnds() {
        Floatparade x = City.ofStreets(10, 20);
        City.enters(x, 1);
        x.begin(0, 1, 200);
        x.ambulance(0);
        minute(x, 1, -1);
        minute(x, 2, -1);
        minute(x, 3, 2);
        int[] fronts = {26, 27, 28, 29};
        int[] due = {28, 28, 28, 32};
        for (int i = 0; i < fronts.length; i++) {
            Floatparade y = wingAt(fronts[i], 1);
            y.ambulance(2);
            y.march(0, 1);
            Check.is("front from " + fronts[i], due[i], y.part(0, 0, 2));
        }
    }

    /**
     * Terms: "An ambulance holds a corner for 2 minutes of each march that goes on, from now on, also if it was held
     * already." Two minutes, not three; from the last call on, and not both together.
     */
    static void minutesThatACornerIsHeld() {
        Floatparade x = wingAt(8, 1);
        x.ambulance(1);
        x.ambulance(1);
        minute(x, 4, 9);
        minute(x, 5, 9);
        minute(x, 6, 12);
        Floatparade y = wingAt(8, 1);
        y.ambulance(1);
        minute(y, 4, 9);
        y.ambulance(1);
        minute(y, 5, 9);
        minute(y, 6, 9);
        minute(y, 7, 12);
        Floatparade z = wingAt(8, 1);
        z.ambulance(1);
        minute(z, 4, 9);
        minute(z, 5, 9);
        z.ambulance(1);
        minute(z, 6, 9);
        minute(z, 7, 9);
        minute(z, 8, 12);
        Floatparade other = wingAt(8, 1);
        other.ambulance(0);
        other.ambulance(2);
        other.ambulance(3);
        minute(other, 4, 11);
    }

    /** Terms: "for 2 minutes of each march that goes on": each has its own; one that has not begun has none. */
    static void heldInEachMarch() {
        Floatparade x = City.ofStreets(10, 10);
        City.enters(x, 1);
        x.society(1, 1);
        x.enter(1, 0);
        x.begin(0, 1, 200);
        x.begin(1, 1, 200);
        x.march(0, 3);
        x.march(1, 3);
        x.ambulance(1);
        x.march(0, 2);
        Check.is("held", 9, x.part(0, 0, 2));
        x.march(0, 1);
        Check.is("held no more", 12, x.part(0, 0, 2));
        x.march(1, 2);
        Check.is("held in this march still", 9, x.part(1, 0, 2));
        x.march(1, 1);
        Check.is("held no more", 12, x.part(1, 0, 2));
        Floatparade y = City.ofStreets(10);
        City.enters(y, 1);
        y.ambulance(0);
        y.begin(0, 1, 200);
        minute(y, 1, 2);
    }

    // ---- promise 22: march

    /** Promise 22: "league: 0 or 1" "Throws IllegalArgumentException if an argument is out of range" */
    static void leagueOfAMarch() {
        Refused.argumentBeyond("league", 0, 1, City::marching, (x, league) -> x.march(league, 1));
    }

    /** Promise 22: "minutes: 1 to 60" */
    static void minutesOfAMarch() {
        Refused.argumentBeyond("minutes", 1, 60, City::marching, (x, minutes) -> x.march(0, minutes));
    }

    /** Promise 22: "Throws IllegalStateException if there is no march that goes on": behind the argument. */
    static void marchIsBound() {
        Refused.state("no society", City::empty, x -> x.march(0, 1));
        Refused.state("it has not begun", City::entered, x -> x.march(0, 1));
        Refused.state("it has ended", City::judged, x -> x.march(1, 60));
        Refused.argument("no minutes, not begun", City::entered, x -> x.march(0, 0));
        Refused.argument("no minutes, ended", City::judged, x -> x.march(0, 61));
        Refused.argument("no league", City::empty, x -> x.march(-1, 1));
        Floatparade x = City.ofLeagues(0, 1);
        x.enter(0, 5);
        x.begin(0, 1, 200);
        Check.state("only the other one goes on", () -> x.march(1, 1));
    }

    /**
     * Promise 22: "Lets minutes go by for a march, as many as told, or until it ends." "Returns the minute then."
     * Terms: "The march ends when all are out." A wing of 1 cell is out behind 183 cells at the cell 185: in 62 minutes.
     */
    static void minutesUntilTheEnd() {
        int[] told = {60, 60, 59, 60};
        int[] then = {1, 2, 3, 60};
        int[] due = {61, 62, 62, 62};
        for (int i = 0; i < told.length; i++) {
            Floatparade x = City.ofStreets(30, 30, 30, 30, 30, 30, 3);
            City.enters(x, 1);
            x.begin(0, 1, 200);
            Check.is("as many as told", told[i], x.march(0, told[i]));
            Check.is("until it ends", due[i], x.march(0, then[i]));
            Check.is("out", due[i] == 62 ? 1 : 0, x.part(0, 0, 4));
            if (due[i] == 62) {
                Check.state("it has ended", () -> x.march(0, 1));
            } else {
                Check.is("the last minute", 62, x.march(0, 60));
            }
        }
    }

    /** Terms: "The march ends when all are out." Not ahead of the last one. */
    static void endWithTheLastPart() {
        Floatparade x = withOneOut();
        Check.is("stopped until then", 21, x.march(0, 19));
        Check.is("no table ahead of the end", -1, x.table(0, 0));
        Check.is("the last one is not out", 0, x.part(0, 1, 4));
        Check.is("the end", 22, x.march(0, 60));
        Check.is("the last one is out", 1, x.part(0, 1, 4));
        Check.is("the table", 0, x.table(0, 0));
    }

    /** Promise 22: "Lets minutes go by for a march": the other one has its own. */
    static void minutesOfEachMarch() {
        Floatparade x = City.ofLeagues(0, 1);
        x.enter(0, 5);
        x.enter(1, 5);
        x.jury(0, true);
        x.begin(0, 1, 200);
        x.begin(1, 1, 200);
        Check.is("league 0", 2, x.march(0, 2));
        Check.is("league 1", 1, x.march(1, 1));
        Check.is("league 1 has moved once", 1, x.part(1, 0, 2));
        Check.is("the end of the league 0", 3, x.march(0, 60));
        Check.is("league 1 goes on", 2, x.march(1, 1));
    }

    // ---- the terms: how the parts move

    /** Terms: "Each part has a front, -1 at first, and a tail, its length less 1 behind that;" */
    static void frontAtFirst() {
        Floatparade x = City.ofStreets(10);
        City.enters(x, 200, 20);
        x.begin(0, 1, 200);
        Check.is("float", -1, x.part(0, 0, 2));
        Check.is("wing", -1, x.part(0, 1, 2));
        Check.is("not out", 0, x.part(0, 0, 4));
    }

    /** Terms: "a part is out when its tail is behind the last cell." Not with its tail at it. */
    static void outBehindTheLastCell() {
        for (int members : new int[] {1, 10, 80}) {
            int length = members / 10 + 1;
            for (int rest = 0; rest < 3; rest++) {
                Floatparade x = City.ofStreets(9 + rest);
                City.enters(x, members);
                x.begin(0, 1, 200);
                bring(x, 9 + length - 1);
                boolean isOut = rest == 0;
                Check.is("tail at 9 of " + (9 + rest) + " cells", isOut ? 1 : 0, x.part(0, 0, 4));
                Check.is("the table", isOut ? 0 : -1, x.table(0, 0));
            }
        }
    }

    /** Terms: "The route has as many cells as its streets are long": the shortest one has 1 cell. */
    static void routeOfOneCell() {
        Floatparade x = City.ofStreets(1);
        City.enters(x, 20);
        x.begin(0, 1, 200);
        minute(x, 1, 2);
        Check.is("its tail is on the only cell", 0, x.part(0, 0, 4));
        minute(x, 2, 5);
        Check.is("out", 1, x.part(0, 0, 4));
    }

    /** Terms: "no further than the tail of the part ahead of it, less 2," */
    static void behindThePartAhead() {
        Floatparade x = City.ofStreets(30);
        City.enters(x, 20);
        City.enters(x, 1);
        x.begin(0, 1, 200);
        minute(x, 1, 2, -1);
        minute(x, 2, 5, 1);
        x.stop(0, 0, 3);
        minute(x, 3, 5, 1);
        x.rain(true);
        minute(x, 4, 5, 1);
        minute(x, 5, 5, 1);
        minute(x, 6, 7, 3);
        x.stop(0, 1, 1);
        minute(x, 7, 9, 3);
        x.rain(false);
        minute(x, 8, 12, 6);
        minute(x, 9, 15, 9);
        minute(x, 10, 18, 12);
        x.stop(0, 0, 1);
        minute(x, 11, 18, 14);
    }

    /** Terms: "as that is by then," "from the first one on": the one ahead has moved already. */
    static void thePartAheadMovesFirst() {
        Floatparade x = City.ofStreets(30);
        for (int i = 0; i < 4; i++) {
            City.enters(x, 1);
        }
        x.begin(0, 1, 200);
        minute(x, 1, 2, 0, -1, -1);
        minute(x, 2, 5, 3, 1, -1);
        minute(x, 3, 8, 6, 4, 2);
    }

    /**
     * Terms: "if that is not out;" Out by then: in the very minute it binds no more, with its tail at the last cell it
     * does.
     */
    static void behindAPartThatIsOut() {
        Floatparade x = City.ofStreets(4);
        City.enters(x, 1, 1);
        x.begin(0, 1, 200);
        minute(x, 1, 1, -1);
        minute(x, 2, 3, 1);
        Check.is("at the last cell", 0, x.part(0, 0, 4));
        minute(x, 3, 5, 4);
        Check.is("out", 1, x.part(0, 0, 4));
        Check.is("the wing, too", 1, x.part(0, 1, 4));
        Floatparade y = City.ofStreets(5);
        City.enters(y, 1, 1);
        y.begin(0, 1, 200);
        y.march(0, 3);
        Check.is("out at 5", 1, y.part(0, 0, 4));
        minute(y, 4, 5, 7);
    }

    /** Terms: "each part that is not out" What is out stays where it is. */
    static void outAndStill() {
        Floatparade x = withOneOut();
        int front = x.part(0, 0, 2);
        x.march(0, 10);
        Check.is("front", front, x.part(0, 0, 2));
    }

    /** Terms: "(It never moves back.)" Though the tail ahead is far behind the first cell. */
    static void neverBack() {
        Floatparade x = City.ofStreets(30);
        City.enters(x, 1, 20);
        x.begin(0, 1, 200);
        for (int i = 1; i <= 10; i++) {
            minute(x, i, 2 * i - 1, -1);
        }
        minute(x, 11, 21, 0);
        minute(x, 12, 23, 2);
    }

    /**
     * Terms: "and not over a cell of a jury if its front is ahead of that: it stays there then, and has to wait in the
     * next minute (also if it would have come just there)." "or has to wait for the jury;" The jury is at the cell 10.
     */
    static void juryAtACorner() {
        int[] fronts = {6, 7, 8, 9, 10, 11};
        int[][] due = {{9, 10, 10, 13}, {10, 10, 13}, {10, 10, 13}, {10, 10, 13}, {13, 16}, {14, 17}};
        for (int i = 0; i < fronts.length; i++) {
            Floatparade x = wingAt(fronts[i], 1);
            x.jury(1, true);
            for (int front : due[i]) {
                x.march(0, 1);
                Check.is("from " + fronts[i], front, x.part(0, 0, 2));
            }
        }
    }

    /** Terms: "it stays there then": at the first corner, at the cell 0, and at the last one, at the last cell. */
    static void juryAtTheEnds() {
        Floatparade x = City.ofStreets(10, 20);
        x.jury(0, true);
        City.enters(x, 1);
        x.begin(0, 1, 200);
        minute(x, 1, 0);
        minute(x, 2, 0);
        minute(x, 3, 3);
        int[] fronts = {25, 26, 27, 28};
        int[][] due = {{28, 29, 29, 32}, {29, 29, 32}, {29, 29, 32}, {29, 29, 32}};
        for (int i = 0; i < fronts.length; i++) {
            Floatparade y = wingAt(fronts[i], 1);
            y.jury(2, true);
            for (int front : due[i]) {
                y.march(0, 1);
                Check.is("from " + fronts[i], front, y.part(0, 0, 2));
            }
            Check.state("out", () -> y.march(0, 1));
        }
    }

    /** Terms: "not over a cell of a jury": of two in reach the first one; and a held one keeps off the jury's cell. */
    static void juriesAndHeldCorners() {
        Floatparade x = City.ofStreets(4, 1, 5);
        x.jury(1, true);
        x.jury(2, true);
        City.enters(x, 1);
        x.begin(0, 1, 200);
        minute(x, 1, 2);
        minute(x, 2, 4);
        minute(x, 3, 4);
        minute(x, 4, 5);
        minute(x, 5, 5);
        minute(x, 6, 8);
        Floatparade y = wingAt(8, 1);
        y.jury(1, true);
        y.ambulance(1);
        minute(y, 4, 9);
        minute(y, 5, 9);
        minute(y, 6, 10);
        minute(y, 7, 10);
        minute(y, 8, 13);
    }

    /** Terms: "(also if it would have come just there)": also by the part ahead of it, or by rain. */
    static void justToTheJury() {
        Floatparade x = City.ofStreets(3, 27);
        City.enters(x, 1);
        City.enters(x, 1);
        x.begin(0, 1, 200);
        x.rain(true);
        minute(x, 1, 1, -1);
        minute(x, 2, 3, 1);
        x.stop(0, 1, 1);
        minute(x, 3, 5, 1);
        x.rain(false);
        x.jury(1, true);
        x.stop(0, 0, 1);
        minute(x, 4, 5, 3);
        minute(x, 5, 8, 3);
        minute(x, 6, 11, 6);
        Floatparade z = wingAt(8, 1);
        z.jury(1, true);
        z.rain(true);
        minute(z, 4, 10);
        minute(z, 5, 10);
        minute(z, 6, 12);
    }

    /**
     * Terms: "Corners are numbered from 0 to 11." "A jury may be at a corner." Each one can be held, and can have a jury,
     * as the first one of a route and as the last one.
     */
    static void eachCorner() {
        for (int corner = 0; corner < 12; corner++) {
            int last = (corner + 5) % 12;
            Floatparade held = withRoute(corner, last);
            held.ambulance(corner);
            minute(held, 1, -1);
            minute(held, 2, -1);
            minute(held, 3, 2);
            held.march(0, 2);
            held.ambulance(last);
            minute(held, 6, 8);
            minute(held, 7, 8);
            minute(held, 8, 11);
            Floatparade judged = withRoute(corner, last);
            judged.jury(corner, true);
            judged.jury(last, true);
            minute(judged, 1, 0);
            minute(judged, 2, 0);
            judged.march(0, 2);
            minute(judged, 5, 9);
            minute(judged, 6, 9);
            minute(judged, 7, 12);
        }
    }

    private static Floatparade withRoute(int corner, int last) {
        Floatparade x = new Floatparade();
        x.street(corner, last, 10, 30, 30, 99);
        x.route(0, corner);
        x.goOn(0, last);
        City.enters(x, 1);
        x.begin(0, 1, 200);
        return x;
    }

    // ---- the terms: gaps

    /**
     * A float with so many cells, and a wing of 1 cell that waits at the cell 0; the minute 3 is over, the float at 5.
     */
    private static Floatparade withWingAt0(int cells, int length) {
        Floatparade x = City.ofStreets(cells);
        City.enters(x, 1, length);
        x.begin(0, 1, 200);
        x.march(0, 1);
        x.jury(0, true);
        minute(x, 2, 3, 0);
        x.stop(0, 1, 20);
        minute(x, 3, 5, 0);
        return x;
    }

    /** Terms: "there is a gap, if more than 6 cells are free between them." 6 are none, 7 are one. */
    static void gapOfMoreThan6() {
        Floatparade x = withWingAt0(30, 1);
        minute(x, 4, 7, 0);
        Check.is("6 are free", 0, x.clock(0, 2));
        minute(x, 5, 9, 0);
        Check.is("8 are free", 1, x.clock(0, 2));
        Floatparade y = withWingAt0(30, 2);
        minute(y, 4, 7, 0);
        Check.is("5 are free", 0, y.clock(0, 2));
        minute(y, 5, 9, 0);
        Check.is("7 are free", 1, y.clock(0, 2));
        minute(y, 6, 11, 0);
        Check.is("each minute anew", 2, y.clock(0, 2));
    }

    /**
     * Terms: "both with their fronts on the route (not behind its last cell)," The front ahead is at 9 when 7 are free.
     */
    static void gapAtTheEndOfTheRoute() {
        Floatparade at = withWingAt0(10, 2);
        minute(at, 4, 7, 0);
        minute(at, 5, 9, 0);
        Check.is("its front is at the last cell", 1, at.clock(0, 2));
        minute(at, 6, 11, 0);
        Check.is("its front is behind that", 1, at.clock(0, 2));
        Floatparade behind = withWingAt0(9, 2);
        minute(behind, 4, 7, 0);
        minute(behind, 5, 9, 0);
        Check.is("its front is behind the last cell, its tail at it", 0, behind.clock(0, 2));
        Check.is("not out", 0, behind.part(0, 0, 4));
    }

    /** Terms: "both with their fronts on the route": not with the front behind at -1, but at 0. */
    static void gapAtTheStartOfTheRoute() {
        Floatparade x = City.ofStreets(30);
        City.enters(x, 1, 1);
        x.begin(0, 1, 200);
        x.stop(0, 1, 9);
        x.march(0, 9);
        Check.is("the float", 17, x.part(0, 0, 2));
        Check.is("the wing", -1, x.part(0, 1, 2));
        Check.is("no gap", 0, x.clock(0, 2));
        x.jury(0, true);
        minute(x, 10, 19, 0);
        Check.is("a gap", 1, x.clock(0, 2));
    }

    /** Terms: "Then for each two parts of one society, one right behind the other," Two gaps in a minute. */
    static void gapsOfEachTwo() {
        Floatparade x = City.ofStreets(30, 30);
        City.enters(x, 1, 1, 1, 1);
        x.begin(0, 1, 200);
        x.march(0, 5);
        minute(x, 6, 11, 9, 7, 5, 3, 1);
        x.stop(0, 3, 20);
        x.march(0, 2);
        Check.is("5 are free", 0, x.clock(0, 2));
        minute(x, 9, 17, 15, 13, 5, 3, 1);
        Check.is("7 are free", 1, x.clock(0, 2));
        minute(x, 10, 19, 17, 15, 5, 3, 1);
        x.stop(0, 1, 20);
        x.march(0, 1);
        minute(x, 12, 23, 17, 15, 5, 3, 1);
        Check.is("each minute one", 4, x.clock(0, 2));
        minute(x, 13, 25, 17, 15, 5, 3, 1);
        Check.is("two", 6, x.clock(0, 2));
    }

    /** Terms: "of one society": none between the last part of one and the first one of the next. */
    static void noGapBetweenTwoSocieties() {
        Floatparade x = City.ofStreets(30);
        City.enters(x, 1, 1);
        City.enters(x, 1, 1);
        x.begin(0, 1, 200);
        minute(x, 1, 1, -1, -1, -1);
        minute(x, 2, 3, 1, -1, -1);
        minute(x, 3, 5, 3, 1, -1);
        x.stop(0, 2, 20);
        x.march(0, 5);
        Check.is("the wing of 0", 13, x.part(0, 1, 2));
        Check.is("the float of 1", 1, x.part(0, 2, 2));
        Check.is("0", 0, x.clock(0, 2));
        Check.is("1", 0, x.clock(1, 2));
    }

    // ---- the terms: penalties of the march

    /**
     * Terms: "Each society has penalties then, in tenths, one for each of these paragraphs that comes to something, in
     * this order: 1 for minutes that it took less than the least, 2 each; 2 for minutes more than the most, 2 each;"
     */
    static void penaltiesByTheClock() {
        int[][] rows = {
            // minutes that it took, least, most, paragraph, tenths
            {5, 5, 5, 0, 0}, {4, 5, 5, 1, 2}, {6, 5, 5, 2, 2}, {3, 5, 9, 1, 4}, {11, 5, 9, 2, 4}, {5, 5, 9, 0, 0},
            {9, 5, 9, 0, 0}, {1, 1, 1, 0, 0}, {1, 200, 200, 1, 398}, {200, 200, 200, 0, 0}, {199, 200, 200, 1, 2},
            {201, 1, 200, 2, 2}, {200, 1, 1, 2, 398}, {2, 1, 1, 2, 2},
        };
        for (int[] row : rows) {
            Floatparade x = City.afterMarchOf(row[0], row[1], row[2]);
            String what = row[0] + " minutes, " + row[1] + " to " + row[2];
            Check.is("time", row[0], x.clock(0, 3));
            Check.is("how many, " + what, row[3] == 0 ? 0 : 1, x.about(0, 8));
            if (row[3] > 0) {
                Check.is("paragraph, " + what, row[3], x.penaltyAt(0, 0, 0));
                Check.is("tenths, " + what, row[4], x.penaltyAt(0, 0, 1));
                Check.is("not appealed away, " + what, 0, x.penaltyAt(0, 0, 2));
            }
            Check.is("points, " + what, -row[4], x.about(0, 5));
        }
    }

    /**
     * Terms: "3 for gaps, 1 each." One gap is something; behind the paragraph 1, or 2. Ahead of the end there is none.
     */
    static void penaltiesByGaps() {
        int[][] limits = {{1, 200}, {40, 200}, {1, 10}};
        for (int i = 0; i < limits.length; i++) {
            Floatparade x = City.ofStreets(10);
            City.enters(x, 1, 2);
            x.begin(0, limits[i][0], limits[i][1]);
            x.march(0, 1);
            x.jury(0, true);
            x.march(0, 1);
            x.stop(0, 1, 20);
            x.march(0, 3);
            Check.is("one gap", 1, x.clock(0, 2));
            Check.is("no penalty yet", 0, x.about(0, 8));
            City.toTheEnd(x, 0);
            Check.is("one gap", 1, x.clock(0, 2));
            int time = x.clock(0, 3);
            int before = i == 0 ? 0 : 1;
            Check.is("how many", before + 1, x.about(0, 8));
            if (before == 1) {
                Check.is("paragraph", i, x.penaltyAt(0, 0, 0));
                Check.is("tenths", i == 1 ? 2 * (40 - time) : 2 * (time - 10), x.penaltyAt(0, 0, 1));
            }
            Check.is("paragraph 3", 3, x.penaltyAt(0, before, 0));
            Check.is("1 tenth", 1, x.penaltyAt(0, before, 1));
        }
    }

    /** Terms: "Each society has penalties then": the first and the last of the line, each by its own time. */
    static void penaltiesOfEachSociety() {
        Floatparade x = City.ofStreets(2);
        for (int i = 0; i < 10; i++) {
            City.enters(x, 1);
        }
        x.begin(0, 200, 200);
        City.toTheEnd(x, 0);
        for (int i = 0; i < 10; i++) {
            Check.is("one of " + i, 1, x.about(i, 8));
            Check.is("tenths of " + i, 2 * (200 - x.clock(i, 3)), x.penaltyAt(i, 0, 1));
        }
    }

    // ---- promise 23: part

    /** Promise 23: "league: 0 or 1" "Throws IllegalArgumentException if league or what is out of range" */
    static void leagueOfAPart() {
        Refused.argumentBeyond("league", 0, 1, City::marching, (x, league) -> x.part(league, 0, 0));
    }

    /** Promise 23: "part: of the line, from 0" "Throws IndexOutOfBoundsException if there is no such part" */
    static void partOfALine() {
        Refused.indexBeyond("part", 0, 5, City::marching, (x, part) -> x.part(0, part, 0));
        Refused.indexBeyond("part", 0, 1, City::judged, (x, part) -> x.part(1, part, 4));
    }

    /**
     * Promise 23: "what: 0 its society, 1 the float, NONE of a wing, 2 its front, 3 how many cells it has, 4 whether it
     * is out, 1 or 0" "Tells of a part of a line." "Returns as told."
     */
    static void whatOfAPart() {
        Refused.argumentBeyond("what", 0, 4, City::marching, (x, what) -> x.part(0, 0, what));
        Floatparade x = City.ofStreets(8);
        x.society(1, 1);
        City.enters(x, 45, 2, 3);
        x.begin(0, 1, 200);
        x.march(0, 5);
        int[][] due = {{1, 0, 9, 2, 1}, {1, -1, 7, 5, 0}, {1, 1, 1, 3, 0}, {1, -1, -1, 5, 0}};
        for (int part = 0; part < 4; part++) {
            for (int what = 0; what < 5; what++) {
                Check.is("part " + part + ", what " + what, due[part][what], x.part(0, part, what));
            }
        }
    }

    /**
     * Promise 23: "Throws IllegalStateException if its march has not begun": behind the argument, ahead of the index.
     */
    static void partWithoutAMarch() {
        Refused.state("no society", City::empty, x -> x.part(0, 0, 0));
        Refused.state("it has not begun", City::entered, x -> x.part(0, 0, 0));
        Refused.state("it has not begun, no part", City::entered, x -> x.part(0, -1, 0));
        Refused.argument("no what, not begun", City::entered, x -> x.part(0, 0, 5));
        Refused.argument("no league, no part", City::marching, x -> x.part(-1, 99, 0));
        Refused.argument("no what, no part", City::marching, x -> x.part(0, 99, -1));
        Refused.argument("no what, not begun, no part", City::entered, x -> x.part(0, 99, 5));
        Check.is("it has ended", 1, City.judged().part(0, 0, 4));
        Floatparade x = City.ofLeagues(0, 1);
        x.enter(0, 5);
        x.begin(0, 1, 200);
        Check.state("the other one has begun", () -> x.part(1, 0, 0));
    }

    // ---- promise 24: clock

    /** Promise 24: "society: a society" "Throws IndexOutOfBoundsException if there is no such society" */
    static void societyOfAClock() {
        Refused.indexBeyond("society", 0, 4, City::marching, (x, society) -> x.clock(society, 0));
        Refused.indexBeyond("society", 0, 9, City::ofTen, (x, society) -> x.clock(society, 3));
        Refused.index("none is there yet", City::empty, x -> x.clock(0, 0));
    }

    /** Promise 24: "Throws IllegalArgumentException if what is out of range": behind the society. */
    static void whatOfAClock() {
        Refused.argumentBeyond("what", 0, 3, City::marching, (x, what) -> x.clock(0, what));
        Refused.index("no society, no what", City::marching, x -> x.clock(5, 4));
        Refused.index("no society, no what", City::empty, x -> x.clock(0, -1));
    }

    private static void isClock(String what, Floatparade x, int society, int... due) {
        for (int i = 0; i < due.length; i++) {
            Check.is(what + ": clock(" + society + ", " + i + ")", due[i], x.clock(society, i));
        }
    }

    /**
     * Promise 24: "what: 0 the minute in which it began, 1 in which it was out, 2 gaps, 3 its time" "Tells of a society
     * in its march." "Returns as told; NONE if it is not so far (0 gaps)."
     */
    static void clockFromNoneOn() {
        Floatparade x = City.ofStreets(6);
        x.society(0, 1);
        isClock("not entered", x, 0, -1, -1, 0, -1);
        x.enter(0, 0);
        City.enters(x, 1);
        isClock("entered", x, 0, -1, -1, 0, -1);
        x.begin(0, 1, 200);
        x.stop(0, 1, 2);
        isClock("begun", x, 0, -1, -1, 0, -1);
        minute(x, 1, 2, -1);
        isClock("on the route", x, 0, 1, -1, 0, -1);
        isClock("not on the route", x, 1, -1, -1, 0, -1);
        minute(x, 2, 5, -1);
        isClock("its tail at the last cell", x, 0, 1, -1, 0, -1);
        minute(x, 3, 8, 2);
        isClock("out", x, 0, 1, 3, 0, 3);
        isClock("on the route", x, 1, 3, -1, 0, -1);
        minute(x, 4, 8, 5);
        minute(x, 5, 8, 8);
        isClock("out before the last minute", x, 0, 1, 3, 0, 3);
        isClock("out in the last minute", x, 1, 3, 5, 0, 3);
        x.endYear();
        isClock("a new year", x, 0, -1, -1, 0, -1);
    }

    /**
     * Terms: "The time of a society is from the minute in which its first part has its front on or behind the cell 0
     * until the one in which its last part is out, both counted."
     */
    static void timeOfASociety() {
        Floatparade at = City.ofStreets(4);
        at.jury(0, true);
        City.enters(at, 1, 1);
        at.begin(0, 1, 200);
        minute(at, 1, 0, -1);
        isClock("the first part is at the cell 0", at, 0, 1, -1, 0, -1);
        minute(at, 2, 0, -1);
        minute(at, 3, 2, 0);
        minute(at, 4, 4, 0);
        Check.is("the first part is out", 1, at.part(0, 0, 4));
        isClock("the last part is not out", at, 0, 1, -1, 0, -1);
        minute(at, 5, 4, 3);
        minute(at, 6, 4, 6);
        isClock("the last part is out", at, 0, 1, 6, 0, 6);
        Floatparade once = City.ofStreets(2);
        City.enters(once, 1);
        once.begin(0, 1, 200);
        minute(once, 1, 2);
        isClock("in and out in one minute", once, 0, 1, 1, 0, 1);
        Floatparade held = City.ofStreets(2);
        City.enters(held, 1);
        held.begin(0, 1, 200);
        held.stop(0, 0, 3);
        held.march(0, 3);
        isClock("not on the route", held, 0, -1, -1, 0, -1);
        minute(held, 4, 2);
        isClock("began in the minute 4", held, 0, 4, 4, 0, 1);
    }
}
