import java.util.List;
import java.util.function.Supplier;

/** What the document says of all calls together. */
public final class EdgesOfAllCallsTest {
    /**
     * The calls with arguments that can be wrong: name, the exceptions of the throws clause by their letters, and for
     * each argument the exception that it is refused with, one that is right in each of the cities, one that is too
     * small, and one that is too great (- if none is).
     */
    private static final String[] CALL_LINES = {
        "society AS A 0 -1 2 A 5 0 201",
        "feud IA I 0 -1 5 I 1 -1 5 - 1 - -",
        "theme IA I 0 -1 5 A 7 0 4096 A 5 0 100",
        "song IS I 0 -1 5",
        "vote IAS I 0 -1 5 I 0 -1 3 A 5 0 100",
        "round IS I 0 -1 5",
        "street IAS I 0 -1 12 I 1 -1 12 A 5 0 31 A 5 2 31 A 5 1 31 A 5 0 100",
        "route IAS A 0 -1 2 I 0 -1 12",
        "goOn IAS A 0 -1 2 I 0 -1 12",
        "jury I I 0 -1 12 - 1 - -",
        "build IAS I 0 -1 5 A 5 0 21 A 5 0 21 A 5 0 100 A 5 0 21",
        "cut IAS I 0 -1 5 I 0 -1 1 A 4 0 5 A 5 0 6 A 20 0 21 A 3 0 4",
        "fits I I 0 -1 5 I 0 -1 1",
        "enter IAS I 0 -1 5 A 5 -1 100",
        "change IAS I 0 -1 5 I 1 -1 5",
        "order IA A 0 -1 2 I 0 -1 -",
        "begin AS A 0 -1 2 A 5 0 201 A 200 4 201",
        "stop ASI A 0 -1 2 I 0 -1 6 A 5 0 21",
        "ambulance I I 0 -1 12",
        "march AS A 0 -1 2 A 5 0 61",
        "part ASI A 0 -1 2 I 0 -1 6 A 0 -1 5",
        "clock IA I 0 -1 5 A 0 -1 4",
        "note IAS A 0 -1 4 I 0 -1 5 A 0 -1 5 A 70 49 101",
        "penalty IAS I 0 -1 5 A 4 3 10 A 5 0 100",
        "appeal IS I 0 -1 5 I 0 -1 20",
        "draw A A 0 -1 5",
        "about IA I 0 -1 5 A 0 -1 9",
        "notes IA I 0 -1 5 A 0 -1 5",
        "penaltyAt IA I 0 -1 5 I 0 -1 20 A 0 -1 3",
        "isDoubted IA A 0 -1 4 I 0 -1 5",
        "table IA A 0 -1 2 I 0 -1 -",
    };
    private static final List<Supplier<Floatparade>> CITIES =
            List.of(City::preparing, City::entered, City::marching, City::judged);
    private static final int MARCHING = 2;
    private static final int JUDGED = 3;

    public static void main(String[] args) throws IllegalAccessException {
        Check.all(EdgesOfAllCallsTest.class);
    }

    /** Start: "An object is used for at most 512 calls after it has been made". The 512th one still counts. */
    static void calls512() {
        Floatparade x = new Floatparade();
        x.society(0, 1);
        x.song(0);
        x.song(0);
        for (int i = 4; i < 512; i++) {
            x.vote(0, 1, 99);
        }
        Check.is("the 512th call", 508 * 99 + 1, x.vote(0, 1, 1));
    }

    /** Terms: "The constants: NONE = -1: There is none." */
    static void none() {
        Check.is("NONE", -1, Floatparade.NONE);
    }

    /**
     * Terms: "A call that throws an exception changes nothing. If several apply, the one that is named first in the
     * throws clause is thrown." Each call with each choice of its arguments too small, or too great, in four cities.
     */
    static void wrongArguments() {
        for (String line : CALL_LINES) {
            String[] words = line.split(" ");
            int arguments = (words.length - 2) / 4;
            for (int chosen = 1; chosen < 1 << arguments; chosen++) {
                for (int city = firstCity(words[0]); city < CITIES.size(); city++) {
                    refused(words, chosen, 2, city);
                    refused(words, chosen, 3, city);
                }
            }
        }
    }

    /** Only the last city has a penalty of the number 0. */
    private static int firstCity(String name) {
        return name.equals("appeal") || name.equals("penaltyAt") ? JUDGED : 0;
    }

    private static void refused(String[] words, int chosen, int side, int city) {
        int[] args = new int[(words.length - 2) / 4];
        StringBuilder kinds = new StringBuilder();
        for (int i = 0; i < args.length; i++) {
            boolean isWrong = (chosen >> i & 1) == 1;
            String word = words[2 + 4 * i + (isWrong ? side : 1)];
            if (word.equals("-")) {
                return;
            }
            args[i] = Integer.parseInt(word);
            kinds.append(isWrong ? words[2 + 4 * i] : "");
        }
        kinds.append(isStateWrong(words[0], city) ? "S" : "");
        RandomRunsTest.Call call = new RandomRunsTest.Call(words[0], words[1], args);
        refusedBy(firstOf(words[1], kinds.toString()), call, city);
    }

    /** Of the calls whose clause names the state ahead of the index. */
    private static boolean isStateWrong(String name, int city) {
        return name.equals("stop") && city != MARCHING || name.equals("part") && city < MARCHING;
    }

    private static char firstOf(String clause, String kinds) {
        int place = 0;
        while (kinds.indexOf(clause.charAt(place)) < 0) {
            place++;
        }
        return clause.charAt(place);
    }

    private static void refusedBy(char kind, RandomRunsTest.Call call, int city) {
        String what = call + " in the city " + city;
        if (kind == 'I') {
            Refused.index(what, CITIES.get(city), x -> RandomRunsTest.answer(x, call));
        } else if (kind == 'A') {
            Refused.argument(what, CITIES.get(city), x -> RandomRunsTest.answer(x, call));
        } else {
            Refused.state(what, CITIES.get(city), x -> RandomRunsTest.answer(x, call));
        }
    }
}
