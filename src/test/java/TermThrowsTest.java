import java.util.List;
import java.util.function.Consumer;

@Part(name = "Terms: what throws", from = "(at the first that is left).", to = "## Promise 1:")
public final class TermThrowsTest {
    /** One call of each kind that may throw, for an object of two by two blocks. */
    private static final List<Consumer<IntraMill>> WRONG = List.of(
            mill -> mill.begin(3, 9), mill -> mill.put(2, 0, -1), mill -> mill.put(0, 8, -1),
            mill -> mill.pack(52, false), mill -> mill.end(8001), mill -> mill.alter(8000, 0),
            mill -> mill.block(4, 0), mill -> mill.block(0, 16), mill -> mill.foretold(4, 2, 0, 0),
            mill -> mill.foretold(0, 9, 0, 0), mill -> mill.foretold(0, 2, 4, 0), mill -> mill.about(5));

    public static void main(String[] args) {
        Check.run(TermThrowsTest.class);
    }

    @Says("A call that throws changes nothing.")
    static void eachOfThemAlone() {
        for (int k = 0; k < WRONG.size(); k++) {
            Check.refused("call " + k, Made::used, WRONG.get(k));
        }
    }

    @Says("A call that throws changes nothing.")
    static void allOfThemInTurn() {
        Check.refused("all but the last", Made::used, mill -> {
            for (Consumer<IntraMill> call : WRONG) {
                Check.same("throws", isRefused(mill, call));
            }
            mill.about(-1);
        });
    }

    /** What is packed behind a call that threw is what is packed without it. */
    @Says("A call that throws changes nothing.")
    static void whatFollowsIsTheSame() {
        Check.same("the object", Sight.of(() -> {
            IntraMill mill = Made.used();
            for (Consumer<IntraMill> call : WRONG) {
                isRefused(mill, call);
            }
            mill.pack(9, false);
            return mill;
        }), Sight.of(() -> {
            IntraMill mill = Made.used();
            mill.pack(9, false);
            return mill;
        }));
    }

    @Says("IllegalArgumentException: a number is not as it may be.")
    static void eachWrongNumberIsThatException() {
        for (int k = 0; k < WRONG.size(); k++) {
            Check.same("call " + k, isRefused(Made.used(), WRONG.get(k)));
        }
    }

    private static boolean isRefused(IntraMill mill, Consumer<IntraMill> call) {
        try {
            call.accept(mill);
        } catch (RuntimeException e) {
            return e.getClass() == IllegalArgumentException.class;
        }
        return false;
    }
}
