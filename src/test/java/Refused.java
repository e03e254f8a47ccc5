import java.util.function.Consumer;
import java.util.function.ObjIntConsumer;
import java.util.function.Supplier;

/**
 * Calls that are refused. Terms: "A call that throws an exception changes nothing." So of two like cities one is asked
 * what is to be refused, and must throw just the exception that is due; the other one is spared; and both are to
 * answer the same from then on.
 */
final class Refused {
    private Refused() {
    }

    static void index(String what, Supplier<Floatparade> city, Consumer<Floatparade> call) {
        with(IndexOutOfBoundsException.class, what, city, call);
    }

    static void argument(String what, Supplier<Floatparade> city, Consumer<Floatparade> call) {
        with(IllegalArgumentException.class, what, city, call);
    }

    static void state(String what, Supplier<Floatparade> city, Consumer<Floatparade> call) {
        with(IllegalStateException.class, what, city, call);
    }

    private static void with(Class<? extends RuntimeException> due, String what, Supplier<Floatparade> city,
            Consumer<Floatparade> call) {
        for (int row = 0; row < Answers.ROWS; row++) {
            Floatparade asked = city.get();
            Floatparade spared = city.get();
            Check.refuses(due, what, () -> call.accept(asked));
            Check.same(what + ", and all after it,", Answers.of(spared, row), Answers.of(asked, row));
        }
    }

    /** The least and the greatest argument are taken; the next ones and the farthest ones are no such thing. */
    static void indexBeyond(String what, int least, int greatest, Supplier<Floatparade> city,
            ObjIntConsumer<Floatparade> call) {
        beyond(IndexOutOfBoundsException.class, what, least, greatest, city, call);
    }

    /** The least and the greatest argument are taken; the next ones and the farthest ones are out of range. */
    static void argumentBeyond(String what, int least, int greatest, Supplier<Floatparade> city,
            ObjIntConsumer<Floatparade> call) {
        beyond(IllegalArgumentException.class, what, least, greatest, city, call);
    }

    private static void beyond(Class<? extends RuntimeException> due, String what, int least, int greatest,
            Supplier<Floatparade> city, ObjIntConsumer<Floatparade> call) {
        for (int taken : new int[] {least, greatest}) {
            Check.takes(what + " " + taken, () -> call.accept(city.get(), taken));
        }
        int[] wrongs = {least - 1, greatest + 1, Integer.MIN_VALUE, Integer.MAX_VALUE};
        for (int wrong : wrongs) {
            with(due, what + " " + wrong, city, x -> call.accept(x, wrong));
        }
    }
}
