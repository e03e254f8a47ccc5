import java.util.ArrayList;
import java.util.Arrays;
import java.util.List;
import java.util.Map;
import java.util.Random;
import java.util.TreeMap;

/**
 * The class and the Reading answer the same calls by chance (fixed seeds), exceptions too: the runs of RandomRunsTest,
 * and runs of crowded cities, with ten societies, twelve corners, and much that comes together at once.
 */
public final class ReadingTest {
    private static final int RUNS = Integer.getInteger("runs", 250);
    private static final int FIRST = Integer.getInteger("first", 0);
    private static final int CALLS = 512;

    private static final Map<String, int[]> ANSWERS = new TreeMap<>();

    public static void main(String[] args) {
        for (int seed = FIRST; seed < FIRST + RUNS; seed++) {
            compare("usual, seed " + seed, RandomRunsTest.callsOf(seed));
            compare("crowded, seed " + seed, new ReadingTest(seed).run());
        }
        for (Map.Entry<String, int[]> kind : ANSWERS.entrySet()) {
            if (Boolean.getBoolean("tell")) {
                System.out.println(kind.getKey() + " " + Arrays.toString(kind.getValue()));
            }
            Check.is(kind.getKey() + " answers often enough to tell something", true, kind.getValue()[0] >= 100);
        }
        Check.finish("ReadingTest");
    }

    private static void compare(String run, List<RandomRunsTest.Call> calls) {
        Floatparade x = new Floatparade();
        Reading reading = new Reading();
        for (int i = 0; i < calls.size(); i++) {
            RandomRunsTest.Call call = calls.get(i);
            String due = dueOf(reading, call);
            String got = gotOf(x, call);
            Check.same(run + ", call " + i + ": " + call, due, got);
            ANSWERS.computeIfAbsent(call.name, none -> new int[2])[due.startsWith("java") ? 1 : 0]++;
            if (!due.equals(got)) {
                return;
            }
        }
    }

    private static String dueOf(Reading reading, RandomRunsTest.Call call) {
        try {
            return "" + reading.call(call.name, Arrays.copyOf(call.args, 6));
        } catch (IndexOutOfBoundsException | IllegalArgumentException | IllegalStateException e) {
            return e.getClass().getName();
        }
    }

    private static String gotOf(Floatparade x, RandomRunsTest.Call call) {
        try {
            return "" + RandomRunsTest.answer(x, call);
        } catch (RuntimeException e) {
            return e.getClass().getName();
        }
    }

    // ---- the runs of crowded cities

    private final Random random;
    private final List<RandomRunsTest.Call> calls = new ArrayList<>();
    private final int few;

    private ReadingTest(int seed) {
        random = new Random(-1 - seed);
        few = random.nextInt(3);
    }

    private List<RandomRunsTest.Call> run() {
        found();
        while (calls.size() < CALLS) {
            year();
        }
        return calls.subList(0, CALLS);
    }

    private void add(String name, int... args) {
        calls.add(new RandomRunsTest.Call(name, "", args));
    }

    private int of(int least, int most) {
        return least + random.nextInt(most - least + 1);
    }

    private boolean inOneOf(int cases) {
        return random.nextInt(cases) == 0;
    }

    private int society() {
        return of(0, 9);
    }

    private void found() {
        int mostly = of(0, 2);
        for (int i = 0; i < 10; i++) {
            add("society", mostly < 2 && !inOneOf(5) ? mostly : of(0, 1), inOneOf(3) ? of(1, 200) : of(1, 60));
        }
        for (int i = 0; i < 11; i++) {
            add("street", i, i + 1, inOneOf(3) ? 1 : of(1, 6), of(8, 14), of(8, 14), of(40, 99));
        }
        for (int i = 0; i < 6; i++) {
            add("street", of(0, 11), of(0, 11), of(1, 12), of(3, 30), of(2, 30), of(1, 99));
        }
        for (int league = 0; league < 2; league++) {
            int first = of(0, 3);
            add("route", league, league == 0 ? first : 11 - first);
            int more = of(1, 10);
            for (int i = first + 1; i <= first + more; i++) {
                add("goOn", league, league == 0 ? i : 11 - i);
            }
        }
        for (int i = of(0, 14); i > 0; i--) {
            feud();
        }
    }

    private void feud() {
        add("feud", society(), society(), inOneOf(4) ? 0 : 1);
    }

    private void year() {
        prepare();
        for (int league = 0; league < 2; league++) {
            if (!inOneOf(8)) {
                add("begin", league, of(1, 20), of(10, 60));
            }
        }
        int steps = few == 0 ? of(0, 8) : of(10, 50);
        for (int i = 0; i < steps; i++) {
            onTheWay();
        }
        for (int i = 0; i < 6; i++) {
            add("march", i % 2, 60);
        }
        judge();
        add("endYear");
        if (inOneOf(4)) {
            add("route", of(0, 1), of(0, 11));
            add("goOn", of(0, 1), of(0, 11));
        }
    }

    private void prepare() {
        for (int i = of(0, 12); i > 0; i--) {
            add("theme", society(), of(1, 4095), of(1, inOneOf(2) ? 9 : 99));
            add("about", society(), 2);
        }
        songs();
        for (int i = few == 0 ? of(0, 3) : of(0, 25); i > 0; i--) {
            int size = inOneOf(3) ? 14 : 6;
            add("build", society(), of(1, size), of(1, size), of(1, 60), inOneOf(2) ? of(1, 20) : of(1, 4));
        }
        for (int i = of(0, 6); i > 0; i--) {
            int one = society();
            add("cut", one, of(0, 1), of(1, 6), of(1, 6), of(1, 20), of(1, 5));
            add("fits", one, of(0, 2));
        }
        for (int i = 0; i < 12; i++) {
            enter();
        }
        for (int place = 0; place < 10; place++) {
            add("order", 0, place);
            add("order", 1, place);
        }
        for (int i = of(0, 8); i > 0; i--) {
            add("change", society(), society());
            add("order", of(0, 1), of(0, 6));
        }
    }

    private void songs() {
        int singer = society();
        for (int i = of(0, 7); i > 0; i--) {
            add("song", singer);
        }
        for (int i = of(0, 12); i > 0; i--) {
            add("vote", singer, of(0, 5), of(1, 3));
            if (inOneOf(3)) {
                add("round", singer);
                add("about", singer, 3);
            }
        }
    }

    private void enter() {
        add("enter", society(), inOneOf(2) ? of(0, 2) : of(0, 99));
        if (inOneOf(3)) {
            feud();
            add("change", society(), society());
            add("order", of(0, 1), of(0, 9));
        }
    }

    private void onTheWay() {
        int league = of(0, 1);
        add("march", league, inOneOf(3) ? of(2, 4) : 1);
        if (inOneOf(3)) {
            add("jury", of(0, 11), inOneOf(3) ? 0 : 1);
        }
        if (inOneOf(3)) {
            add("ambulance", of(0, 11));
        }
        if (inOneOf(3)) {
            add("stop", league, of(0, 20), inOneOf(3) ? of(1, 20) : of(1, 2));
        }
        if (inOneOf(8)) {
            add("rain", of(0, 1));
        }
        int part = of(0, inOneOf(2) ? 4 : 20);
        add("part", league, part, 2);
        add("part", league, part + 1, inOneOf(2) ? 2 : of(0, 4));
        add("clock", society(), of(0, 3));
    }

    private void judge() {
        for (int i = 0; i < 10; i++) {
            add("clock", i, of(0, 3));
            add("about", i, inOneOf(2) ? 5 : 8);
        }
        int one = society();
        for (int i = of(10, 40); i > 0; i--) {
            int note = inOneOf(2) ? of(50, 100) : 60 + of(0, 2) * 15;
            add("note", of(0, 3), inOneOf(3) ? society() : one, of(0, 4), note);
        }
        for (int i = 0; i < 10; i++) {
            notesAndPenalties(inOneOf(2) ? one : society());
        }
        add("draw", of(0, 4));
        for (int place = 0; place < 10; place++) {
            add("table", of(0, 1), place);
            add("about", place, 5);
        }
    }

    private void notesAndPenalties(int society) {
        add("isDoubted", of(0, 3), society);
        add("notes", society, of(0, 4));
        int number = of(0, 4);
        add("penalty", society, of(4, 9), of(1, 9));
        add("penaltyAt", society, number, of(0, 2));
        if (inOneOf(3)) {
            add("appeal", society, number);
            add("penaltyAt", society, number, 2);
        }
    }
}
