import java.util.ArrayList;
import java.util.Arrays;
import java.util.List;
import java.util.Map;
import java.util.Random;
import java.util.TreeMap;

/**
 * Long runs of calls by chance, with fixed seeds. Each exception is just one of the throws clause, never what the
 * machine throws; and a second object, that is spared the calls that threw, answers all others the same.
 */
public final class RandomRunsTest {
    private static final int RUNS = 400;
    private static final int CALLS = 512;

    /**
     * The calls: name, how often, in which part of a year (preparing, marching, judging), exceptions (by their
     * letters), and for each argument its least and greatest one.
     */
    private static final String[] CALL_LINES = {
        "society 2 P AS 0 1 1 200",
        "feud 3 PM IA 0 5 0 5 0 1",
        "theme 6 P IA 0 5 1 4095 1 99",
        "song 10 P IS 0 5",
        "vote 8 P IAS 0 5 0 2 1 9",
        "round 6 P IS 0 5",
        "street 2 P IAS 0 5 0 5 1 30 3 30 2 30 1 99",
        "route 1 P IAS 0 1 0 5",
        "goOn 4 P IAS 0 1 0 5",
        "jury 4 PM I 0 5 0 1",
        "build 9 P IAS 0 5 1 14 1 15 1 62 1 20",
        "cut 8 P IAS 0 5 0 1 1 6 1 6 1 20 1 12",
        "fits 4 P I 0 5 0 1",
        "enter 14 P IAS 0 5 0 99",
        "change 8 P IAS 0 5 0 5",
        "order 5 P IA 0 1 0 4",
        "begin 1 P AS 0 1 1 30 20 60",
        "stop 8 M ASI 0 1 0 6 1 9",
        "rain 2 M - 0 1",
        "ambulance 8 M I 0 5",
        "march 14 M AS 0 1 1 4",
        "part 14 M ASI 0 1 0 8 0 4",
        "clock 8 MJ IA 0 5 0 3",
        "note 10 J IAS 0 3 0 5 0 4 50 100",
        "penalty 10 J IAS 0 5 4 9 1 99",
        "appeal 6 J IS 0 5 0 2",
        "draw 2 J A 0 4",
        "endYear 1 P S",
        "about 10 PMJ IA 0 5 0 8",
        "notes 5 J IA 0 5 0 4",
        "penaltyAt 6 J IA 0 5 0 2 0 2",
        "isDoubted 8 J IA 0 3 0 5",
        "table 8 J IA 0 1 0 4",
    };

    /** A call with its arguments; a boolean is 1 or 0. */
    static final class Call {
        final String name;
        final String exceptions;
        final int[] args;

        Call(String name, String exceptions, int[] args) {
            this.name = name;
            this.exceptions = exceptions;
            this.args = args;
        }

        @Override
        public String toString() {
            return name + Arrays.toString(args);
        }
    }

    public static void main(String[] args) {
        Map<String, Integer> answered = new TreeMap<>();
        for (int seed = 0; seed < RUNS; seed++) {
            run(seed, answered);
        }
        for (String line : CALL_LINES) {
            String name = line.split(" ")[0];
            Check.is(name + " answers often enough to tell something", true, answered.getOrDefault(name, 0) >= 200);
        }
        Check.finish("RandomRunsTest");
    }

    static List<Call> callsOf(int seed) {
        Random random = new Random(seed);
        List<Call> calls = new ArrayList<>();
        addSetup(random, calls);
        while (calls.size() < CALLS) {
            addYear(random, calls);
        }
        return calls.subList(0, CALLS);
    }

    private static void addYear(Random random, List<Call> calls) {
        addChosen(random, calls, "P", 30 + random.nextInt(60));
        for (int league = 0; league < 2; league++) {
            if (random.nextInt(5) > 0) {
                int least = 1 + random.nextInt(30);
                calls.add(new Call("begin", "AS", new int[] {league, least, least + random.nextInt(20)}));
            }
        }
        addChosen(random, calls, "M", 20 + random.nextInt(50));
        for (int i = 0; i < 4; i++) {
            calls.add(new Call("march", "AS", new int[] {i % 2, 60}));
        }
        addNotes(random, calls);
        addChosen(random, calls, "J", 20 + random.nextInt(40));
        calls.add(new Call("endYear", "S", new int[0]));
    }

    /** Many notes for one society, and a judge that gives high ones, so that there are doubts. */
    private static void addNotes(Random random, List<Call> calls) {
        int society = random.nextInt(6);
        for (int i = 0; i < 20; i++) {
            int judge = random.nextInt(4);
            int judged = random.nextInt(3) == 0 ? random.nextInt(6) : society;
            int note = random.nextInt(3) == 0 ? 50 + random.nextInt(51) : (judge == 0 ? 80 : 60) + random.nextInt(9);
            int[] args = {judge, judged, random.nextInt(5), note};
            calls.add(new Call("note", "IAS", args));
        }
    }

    private static void addChosen(Random random, List<Call> calls, String part, int count) {
        for (int i = 0; i < count; i++) {
            String ofPart = random.nextInt(15) == 0 ? "" : part;
            int rest = random.nextInt(sumOf(ofPart));
            int place = -1;
            while (rest >= 0) {
                place++;
                rest -= oftenIn(place, ofPart);
            }
            calls.add(chosen(random, CALL_LINES[place].split(" ")));
        }
    }

    private static int oftenIn(int place, String part) {
        String[] line = CALL_LINES[place].split(" ");
        return line[2].contains(part) ? Integer.parseInt(line[1]) : 0;
    }

    private static int sumOf(String part) {
        int sum = 0;
        for (int i = 0; i < CALL_LINES.length; i++) {
            sum += oftenIn(i, part);
        }
        return sum;
    }

    /** Societies, streets and routes, so that a run comes to its marches. */
    private static void addSetup(Random random, List<Call> calls) {
        int count = 4 + random.nextInt(3);
        for (int i = 0; i < count; i++) {
            calls.add(new Call("society", "AS", new int[] {random.nextInt(2), 1 + random.nextInt(100)}));
        }
        for (int i = 0; i < 5; i++) {
            int[] street = {i, i + 1, 1 + random.nextInt(12), 15 + random.nextInt(9), 15 + random.nextInt(9), 60};
            calls.add(new Call("street", "IAS", street));
        }
        for (int league = 0; league < 2; league++) {
            calls.add(new Call("route", "IAS", new int[] {league, league * 5}));
            int more = 1 + random.nextInt(5);
            for (int i = 1; i <= more; i++) {
                calls.add(new Call("goOn", "IAS", new int[] {league, league == 0 ? i : 5 - i}));
            }
        }
    }

    private static Call chosen(Random random, String[] line) {
        int[] args = new int[(line.length - 4) / 2];
        int wrong = random.nextInt(12) == 0 ? random.nextInt(6) : -1;
        for (int i = 0; i < args.length; i++) {
            int least = Integer.parseInt(line[4 + 2 * i]);
            int greatest = Integer.parseInt(line[5 + 2 * i]);
            args[i] = i == wrong ? wrongArgument(random, least, greatest)
                    : least + random.nextInt(greatest - least + 1);
        }
        return new Call(line[0], line[3], args);
    }

    private static int wrongArgument(Random random, int least, int greatest) {
        switch (random.nextInt(5)) {
            case 0:
                return least - 1;
            case 1:
                return greatest + 1;
            case 2:
                return random.nextBoolean() ? Integer.MIN_VALUE : Integer.MAX_VALUE;
            case 3:
                return random.nextInt();
            default:
                return greatest + random.nextInt(9);
        }
    }

    private static void run(int seed, Map<String, Integer> answered) {
        Floatparade all = new Floatparade();
        Floatparade spared = new Floatparade();
        int place = 0;
        for (Call call : callsOf(seed)) {
            String what = "seed " + seed + ", call " + place + ": " + call;
            place++;
            Integer got = null;
            try {
                got = answer(all, call);
            } catch (RuntimeException e) {
                Check.is(what + " threw " + e, true, isOfClause(e, call.exceptions));
            }
            if (got != null) {
                answered.merge(call.name, 1, Integer::sum);
                Check.is(what, answer(spared, call), got);
            }
        }
    }

    static boolean isOfClause(RuntimeException e, String exceptions) {
        Class<?> kind = e.getClass();
        return kind == IllegalArgumentException.class && exceptions.contains("A")
                || kind == IllegalStateException.class && exceptions.contains("S")
                || kind == IndexOutOfBoundsException.class && exceptions.contains("I");
    }

    static int answer(Floatparade x, Call call) {
        int[] a = Arrays.copyOf(call.args, 6);
        switch (call.name) {
            case "society":
                return x.society(a[0], a[1]);
            case "feud":
                return x.feud(a[0], a[1], (a[2] & 1) == 1) ? 1 : 0;
            case "theme":
                return x.theme(a[0], a[1], a[2]);
            case "song":
                return x.song(a[0]);
            case "vote":
                return x.vote(a[0], a[1], a[2]);
            case "round":
                return x.round(a[0]);
            case "street":
                return x.street(a[0], a[1], a[2], a[3], a[4], a[5]);
            case "route":
                x.route(a[0], a[1]);
                return 0;
            case "goOn":
                return x.goOn(a[0], a[1]);
            case "jury":
                return x.jury(a[0], (a[1] & 1) == 1) ? 1 : 0;
            case "build":
                return x.build(a[0], a[1], a[2], a[3], a[4]);
            case "cut":
                return x.cut(a[0], a[1], a[2], a[3], a[4], a[5]);
            case "fits":
                return x.fits(a[0], a[1]) ? 1 : 0;
            case "enter":
                return x.enter(a[0], a[1]);
            case "change":
                return x.change(a[0], a[1]) ? 1 : 0;
            case "order":
                return x.order(a[0], a[1]);
            default:
                return laterAnswer(x, call.name, a);
        }
    }

    private static int laterAnswer(Floatparade x, String name, int[] a) {
        switch (name) {
            case "begin":
                return x.begin(a[0], a[1], a[2]);
            case "stop":
                return x.stop(a[0], a[1], a[2]);
            case "rain":
                return x.rain((a[0] & 1) == 1) ? 1 : 0;
            case "ambulance":
                return x.ambulance(a[0]);
            case "march":
                return x.march(a[0], a[1]);
            case "part":
                return x.part(a[0], a[1], a[2]);
            case "clock":
                return x.clock(a[0], a[1]);
            case "note":
                return x.note(a[0], a[1], a[2], a[3]);
            case "penalty":
                return x.penalty(a[0], a[1], a[2]);
            case "appeal":
                return x.appeal(a[0], a[1]);
            case "draw":
                return x.draw(a[0]);
            case "endYear":
                return x.endYear();
            case "about":
                return x.about(a[0], a[1]);
            case "notes":
                return x.notes(a[0], a[1]);
            case "penaltyAt":
                return x.penaltyAt(a[0], a[1], a[2]);
            case "isDoubted":
                return x.isDoubted(a[0], a[1]) ? 1 : 0;
            case "table":
                return x.table(a[0], a[1]);
            default:
                throw new AssertionError(name);
        }
    }
}
