import java.util.ArrayList;
import java.util.List;
import java.util.function.BooleanSupplier;
import java.util.function.IntSupplier;

/**
 * What a city answers to a long row of calls, by which two cities can be compared. The rows other than the first one
 * change the city: each is asked of a city of its own.
 */
final class Answers {
    static final int ROWS = 4;
    private static final int MOST_CALLS = 400;
    private static final int MOST_PARTS = 8;

    private final Floatparade x;
    private final List<String> told = new ArrayList<>();
    private int calls;
    private int societies;

    private Answers(Floatparade x) {
        this.x = x;
    }

    static List<String> of(Floatparade x, int row) {
        Answers answers = new Answers(x);
        answers.countSocieties();
        switch (row) {
            case 0:
                answers.asTold();
                break;
            case 1:
                answers.songsAndStreets();
                break;
            case 2:
                answers.floatsAndRoutes();
                break;
            default:
                answers.marchesAndYears();
                break;
        }
        return answers.told;
    }

    /** Whether the call answered, and with what. */
    private boolean ask(String what, IntSupplier call) {
        calls++;
        if (calls > MOST_CALLS) {
            throw new AssertionError("the row of calls is too long");
        }
        try {
            told.add(what + " = " + call.getAsInt());
            return true;
        } catch (RuntimeException e) {
            told.add(what + " throws " + e.getClass().getSimpleName());
            return false;
        }
    }

    private void askWhether(String what, BooleanSupplier call) {
        ask(what, () -> call.getAsBoolean() ? 1 : 0);
    }

    private int count(IntSupplier call) {
        calls++;
        return call.getAsInt();
    }

    private void countSocieties() {
        boolean is = true;
        while (is && societies < 10) {
            int number = societies;
            is = ask("league of " + number, () -> x.about(number, 0));
            societies += is ? 1 : 0;
        }
    }

    /** All that can be asked without a change. */
    private void asTold() {
        for (int i = 0; i < societies; i++) {
            tellSociety(i);
        }
        for (int i = 0; i < 2; i++) {
            tellLeague(i);
        }
    }

    private void tellSociety(int society) {
        for (int i = 1; i <= 8; i++) {
            int what = i;
            ask("about " + society + " " + i, () -> x.about(society, what));
        }
        for (int i = 0; i < 4; i++) {
            int what = i;
            ask("clock " + society + " " + i, () -> x.clock(society, what));
            askWhether("doubted " + i + " " + society, () -> x.isDoubted(what, society));
        }
        for (int i = 0; i < 5; i++) {
            int category = i;
            ask("notes " + society + " " + i, () -> x.notes(society, category));
        }
        int floats = count(() -> x.about(society, 4));
        for (int i = 0; i < floats; i++) {
            int number = i;
            askWhether("fits " + society + " " + i, () -> x.fits(society, number));
        }
        int penalties = count(() -> x.about(society, 8));
        for (int i = 0; i < 3 * penalties; i++) {
            int number = i / 3;
            int what = i % 3;
            ask("penalty " + society + " " + number + " " + what, () -> x.penaltyAt(society, number, what));
        }
    }

    private void tellLeague(int league) {
        for (int i = 0; i <= societies; i++) {
            int place = i;
            ask("order " + league + " " + i, () -> x.order(league, place));
            ask("table " + league + " " + i, () -> x.table(league, place));
        }
        boolean is = true;
        for (int i = 0; i < 5 * MOST_PARTS && is; i++) {
            int part = i / 5;
            int what = i % 5;
            is = ask("part " + league + " " + part + " " + what, () -> x.part(league, part, what));
        }
    }

    private void songsAndStreets() {
        askWhether("rain", () -> x.rain(true));
        ask("draw", () -> x.draw(0));
        for (int i = 0; i < 12; i++) {
            int corner = i;
            askWhether("jury " + i, () -> x.jury(corner, true));
        }
        for (int i = 0; i < societies; i++) {
            tellSongs(i);
        }
        for (int day : new int[] {60, 51, 50, 49, 10, 6, 5, 4}) {
            ask("theme on " + day, () -> x.theme(societies - 1, 4095, day));
        }
        tellFeuds();
        for (int i = 0; i < 12 * 12; i++) {
            int one = i / 12;
            int other = i % 12;
            if (one < other) {
                ask("street " + one + " " + other, () -> x.street(one, other, 1, 3, 2, 1));
            }
        }
        ask("society", () -> x.society(1, 7));
    }

    private void tellSongs(int society) {
        // a song more, so that the votes of one that was chosen as the only one can be told
        ask("song " + society, () -> x.song(society));
        for (int i = 0; i < 6; i++) {
            int song = i;
            ask("vote " + society + " " + i, () -> x.vote(society, song, 1));
        }
        ask("round " + society, () -> x.round(society));
    }

    private void tellFeuds() {
        for (int i = 0; i < societies; i++) {
            for (int j = i + 1; j < societies; j++) {
                int one = i;
                int other = j;
                askWhether("feud " + one + " " + other, () -> x.feud(one, other, true));
            }
        }
    }

    private void floatsAndRoutes() {
        for (int i = 0; i < 3 * societies; i++) {
            int society = i / 3;
            int number = i % 3;
            ask("cut " + society + " " + number, () -> x.cut(society, number, 1, 1, 1, 1));
        }
        for (int i = 0; i < societies; i++) {
            int society = i;
            ask("build " + society, () -> x.build(society, 1, 1, 1, 1));
        }
        for (int i = 0; i < 24; i++) {
            int league = i / 12;
            int corner = i % 12;
            ask("go on " + league + " " + corner, () -> x.goOn(league, corner));
        }
        march();
    }

    private void march() {
        enterAll();
        for (int i = 0; i < 2; i++) {
            int league = i;
            ask("change 0 1", () -> x.change(0, 1) ? 1 : 0);
            ask("order " + league, () -> x.order(league, 0));
            ask("begin " + league, () -> x.begin(league, 10, 20));
            tellParts(league, 3);
            minutes(league, 3);
            ask("to the end of " + league, () -> x.march(league, 60));
        }
    }

    private void enterAll() {
        for (int i = 0; i < societies; i++) {
            int society = i;
            ask("enter " + society, () -> x.enter(society, 50));
        }
        for (int i = 0; i < societies; i++) {
            int place = i;
            ask("order " + place, () -> x.order(0, place));
            ask("order " + place, () -> x.order(1, place));
        }
    }

    private void minutes(int league, int count) {
        boolean goesOn = true;
        for (int i = 0; i < count && goesOn; i++) {
            goesOn = ask("march " + league, () -> x.march(league, 1));
            tellParts(league, 2);
        }
    }

    private void tellParts(int league, int what) {
        boolean is = true;
        for (int i = 0; i < MOST_PARTS && is; i++) {
            int part = i;
            is = ask("part " + part + " " + what, () -> x.part(league, part, what));
        }
    }

    private void marchesAndYears() {
        for (int i = 0; i < 2; i++) {
            int league = i;
            ask("begin " + league, () -> x.begin(league, 1, 200));
            tellParts(league, 3);
            minutes(league, 3);
        }
        for (int i = 0; i < 2 * MOST_PARTS; i++) {
            int league = i / MOST_PARTS;
            int part = i % MOST_PARTS;
            ask("stop " + league + " " + part, () -> x.stop(league, part, 1));
        }
        for (int i = 0; i < 12; i++) {
            int corner = i;
            ask("ambulance " + i, () -> x.ambulance(corner));
        }
        for (int i = 0; i < 4; i++) {
            int league = i % 2;
            ask("to the end of " + league, () -> x.march(league, 60));
        }
        for (int i = 0; i < 20 * Math.min(societies, 3); i++) {
            int society = i / 20;
            int judge = i % 4;
            int category = i / 4 % 5;
            ask("note " + i, () -> x.note(judge, society, category, 50));
        }
        for (int i = 0; i < societies; i++) {
            int society = i;
            ask("penalty " + i, () -> x.penalty(society, 4, 1));
            ask("appeal " + i, () -> x.appeal(society, 0));
        }
        ask("end of the year", () -> x.endYear());
        for (int i = 0; i < societies; i++) {
            int society = i;
            ask("money of " + i, () -> x.about(society, 6));
            ask("league of " + i, () -> x.about(society, 0));
        }
        enterAll();
    }
}
