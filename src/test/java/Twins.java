import java.util.LinkedHashMap;
import java.util.Map;
import java.util.function.Supplier;

/** Two objects that went the same way; what one of them is asked more may leave the told traces and no other ones. */
final class Twins {
    private final Check check;
    private final Supplier<Run> way;

    Twins(Check check, Supplier<Run> way) {
        this.check = check;
        this.way = way;
    }

    /** A call that answers so, and leaves no trace. */
    void noTrace(long due, String name, int... numbers) {
        traces(Map.of(), due, name, numbers);
    }

    /** A call that is right but for one number: each of these in its place brings that, and leaves no trace. */
    void each(long due, String name, int[] right, int place, int... wrong) {
        for (int number : wrong) {
            int[] numbers = right.clone();
            numbers[place] = number;
            noTrace(due, name, numbers);
        }
    }

    /** A call that is refused so, and leaves no trace but a status of one more. */
    void refused(int status, long due, String name, int... numbers) {
        int what = 12 + status;
        traces(Map.of("count(" + what + ")", way.get().call("count", what) + 1), due, name, numbers);
    }

    /** A call that answers so, after which these answers are others, and no more of them. */
    void traces(Map<String, Long> others, long due, String name, int... numbers) {
        Run asked = way.get();
        asked.is(due, name, numbers);
        Map<String, Long> want = new LinkedHashMap<>(Portrait.of(way.get()));
        want.putAll(others);
        Portrait.compare(check, "after " + Run.shown(name, numbers) + " ", want, Portrait.of(asked));
    }
}
