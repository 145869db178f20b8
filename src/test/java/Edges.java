import java.util.function.Supplier;
import java.util.function.ToIntFunction;

/** What the tests of the document's edges share: each check names its promise and the words that it holds to. */
final class Edges {
    private static final int LEAST_INT = Integer.MIN_VALUE;
    private static final int GREATEST_INT = Integer.MAX_VALUE;

    /** A call with one number left open. */
    interface Open {
        int ask(StepsByHand x, int v);
    }

    private final Checks check;
    private final int[] made = new int[42];
    private int promise = 1;
    private String words = "";
    private Supplier<StepsByHand> maker = StepsByHand::new;

    Edges(String name) {
        check = new Checks(name);
    }

    /** The checks that follow are of these words of a promise. */
    void words(int ofPromise, String theWords) {
        promise = ofPromise;
        words = theWords;
    }

    /** Calls that are refused are asked of objects made this way. */
    void from(Supplier<StepsByHand> newMaker) {
        maker = newMaker;
    }

    void due(String call, long got, long want) {
        made[promise]++;
        check.due("promise " + promise + " [" + words + "]: " + call, got, want);
    }

    /** Asks one of two objects that are alike: it must refuse, and answer all else as the other one then. */
    void refused(String call, int want, ToIntFunction<StepsByHand> asked) {
        StepsByHand one = maker.get();
        StepsByHand other = maker.get();
        due(call, asked.applyAsInt(one), want);
        String difference = Room.difference(Room.answers(one), Room.answers(other));
        made[promise]++;
        check.isTrue("promise " + promise + " [" + words + "]: " + call + " has changed " + difference, difference.isEmpty());
    }

    /** The numbers next to the bounds and those far out are refused. */
    void outside(String call, int least, int greatest, int want, Open asked) {
        int[] far = {LEAST_INT, LEAST_INT + 1, least - 1, greatest + 1, GREATEST_INT - 1, GREATEST_INT};
        for (int v : far) refused(call.replace("#", String.valueOf(v)), want, x -> asked.ask(x, v));
    }

    /** Fails if one of these promises has no check at all. */
    void finish(int first, int last) {
        for (int p = first; p <= last; p++) check.isTrue("promise " + p + " has checks", made[p] > 0);
        check.finish();
    }
}
