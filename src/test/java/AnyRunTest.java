import java.lang.reflect.InvocationTargetException;
import java.lang.reflect.Method;
import java.util.Arrays;
import java.util.HashMap;
import java.util.Map;
import java.util.Random;

/** Promises 1 to 41 in whole runs at random: each answer is compared with that of a second room, written another way. */
public final class AnyRunTest {
    private static final Checks CHECK = new Checks("AnyRunTest");
    private static final int[] FAR = {-1, Integer.MIN_VALUE, Integer.MAX_VALUE, 500, 499, 16, 41, 65536, -21, 21, 100, 1000};
    /** A call and what its numbers are: see number(). */
    private static final String[] CALLS = {"text", "fault", "prop pb", "cue ce", "rule d", "shift cf", "behind cc", "beside c", "passes sg",
        "plan sua", "does sba", "hit ah", "hit ah", "hit ah", "hit ah", "wipe", "miss x", "slip a", "cuts d", "enough m", "speech f", "heard ca", "masked",
        "level sfy", "clips sd", "lower s", "carry sa", "without sq", "foreign qa", "piece fl", "whole", "anew d", "moved c", "entry aio",
        "entry aio", "entry aio", "tear", "joined yw", "joined tw", "sheet kgz", "read kgjy", "torn", "count w", "end f"};

    private final Random random;
    private final StepsByHand x = new StepsByHand();
    private final SecondRoom second = new SecondRoom();
    private final Map<String, Method> methods = new HashMap<>();
    private final StringBuilder trace = new StringBuilder();
    private int calls = 0;

    private AnyRunTest(int seed) {
        random = new Random(seed);
        for (Method m : StepsByHand.class.getDeclaredMethods()) methods.put(m.getName(), m);
    }

    public static void main(String[] args) throws ReflectiveOperationException {
        for (int seed = 0; seed < 200; seed++) new AnyRunTest(seed).run();
        CHECK.finish();
    }

    private void run() throws ReflectiveOperationException {
        while (calls < 440) {
            int kind = random.nextInt(60);
            if (calls == 0 || kind == 0) tell();
            else if (kind == 1) laySheet();
            else if (kind < 5) hitBoth();
            else one(CALLS[random.nextInt(CALLS.length)]);
        }
    }

    private int call(String name, Object... numbers) throws ReflectiveOperationException {
        Method m = methods.get(name);
        Method other = SecondRoom.class.getDeclaredMethod(name, m.getParameterTypes());
        calls++;
        trace.append(name).append(Arrays.toString(numbers)).append(' ');
        try {
            int got = (int) m.invoke(x, numbers);
            int want = (int) other.invoke(second, numbers);
            CHECK.due(got == want ? name : trace.toString(), got, want);
            return got;
        } catch (InvocationTargetException e) {
            throw new IllegalStateException(trace.toString(), e);
        }
    }

    private void one(String words) throws ReflectiveOperationException {
        String[] parts = words.split(" ");
        // All that is told by hand is gone at once, so this is asked for more seldom.
        boolean empties = "wipe whole tear text".contains(parts[0]);
        if (empties && random.nextInt(parts[0].equals("text") ? 30 : 6) > 0) return;
        Object[] numbers = new Object[parts.length == 1 ? 0 : parts[1].length()];
        for (int i = 0; i < numbers.length; i++) numbers[i] = random.nextInt(40) == 0 ? far() : number(parts[1].charAt(i), numbers);
        call(parts[0], numbers);
    }

    private int far() {
        return FAR[random.nextInt(FAR.length)];
    }

    private int any(int bound) {
        return random.nextInt(Math.max(1, bound));
    }

    private int number(char kind, Object[] ahead) {
        switch (kind) {
            case 'a': return any(2);
            case 'b': return any(2) * any(3);
            case 'g': return any(3);
            case 'd': return any(4);
            case 'e': return any(5);
            case 'k': return any(4);
            case 'c': return any(second.count(1));
            case 'p': return any(second.count(0));
            case 'q': return any(1 << second.count(0));
            case 's': return setOfCues();
            case 'u': return oneOf((int) ahead[0]);
            case 'f': return random.nextInt(4) == 0 ? any(500) : any(70);
            case 'h': return 30 * second.count(3 + ahead(ahead)) + any(40);
            case 'i': return 3 * second.count(6 + ahead(ahead)) + any(5);
            default: return moreNumber(kind);
        }
    }

    private int setOfCues() {
        int set = any(1 << second.count(1)) & any(1 << second.count(1)) | any(1 << second.count(1)) & any(1 << second.count(1));
        // Mostly so few that they can be planned.
        for (int tries = 0; Integer.bitCount(set) > 9 && tries < 30; tries++) set &= ~(1 << any(16));
        return set;
    }

    private int oneOf(int set) {
        int c = any(16);
        for (int tries = 0; (set >> c & 1) == 0 && tries < 30; tries++) c = any(16);
        return c;
    }

    private void hitBoth() throws ReflectiveOperationException {
        if (second.count(3) != second.count(4)) call("wipe");
        for (int n = 1 + any(4); n > 0; n--) {
            int f = 20 * second.count(3) + any(25);
            call("hit", 0, f);
            call("hit", 1, Math.max(0, f + any(25) - 12));
        }
        call("slip", any(2));
        call("cuts", any(4));
        call("enough", any(40));
    }

    private int ahead(Object[] numbers) {
        return (int) numbers[0] & 1;
    }

    private int moreNumber(char kind) {
        switch (kind) {
            case 'j': return 4 * any(11) + any(2) * any(4);
            case 'l': return 1 + any(40);
            case 'm': return random.nextInt(3) == 0 ? any(1000) : any(60);
            case 'o': return any(3);
            case 't': return any(100);
            case 'w': return random.nextInt(2) == 0 ? any(13) : 10 + any(13);
            case 'x': return any(41) - 20;
            case 'y': return any(11);
            default: return any(42) - 1;
        }
    }

    private void put(String text) throws ReflectiveOperationException {
        call("end", 0);
        for (int at = 0; at < text.length(); at += 8) {
            String eight = (text.substring(at) + "        ").substring(0, 8);
            call("feed", Room.word(eight));
        }
        call("end", text.length());
    }

    private void tell() throws ReflectiveOperationException {
        StringBuilder text = new StringBuilder(nearText());
        if (calls > 0 && random.nextInt(2) == 0) AnyTextTest.spoil(text, random);
        if (text.length() > 400) text.setLength(400);
        put(text.toString());
        call("text");
        call("fault");
    }

    /** Cues near one another, so that they are beside, behind, masked and clip often. */
    private String nearText() {
        StringBuilder text = new StringBuilder();
        if (random.nextInt(3) > 0) text.append("walkers ").append(1 + any(3)).append(';');
        if (random.nextInt(3) > 0) text.append("move ").append(any(10)).append(';');
        if (random.nextInt(3) > 0) text.append("tail ").append(1 + any(9)).append(';');
        if (random.nextInt(3) > 0) text.append("most ").append(1 + any(40)).append(';');
        int props = 1 + any(8);
        for (int p = 0; p < props; p++) text.append("prop").append(any(1 + any(6))).append(';');
        for (int a = 0; a < props; a++) {
            int b = any(props);
            if (a != b && random.nextInt(2) == 0) text.append("stands").append(a).append(' ').append(b).append(';');
        }
        for (int s = any(4); s > 0; s--) text.append("speech").append(any(60)).append(' ').append(1 + any(30)).append(' ').append(1 + any(9)).append(';');
        int range = 5 + any(60);
        for (int c = any(14); c > 0 && text.length() < 380; c--) {
            text.append("cue").append(any(range)).append(' ').append(1 + any(15)).append(' ').append(any(props)).append(' ').append(1 + any(9));
            text.append(random.nextInt(2) == 0 ? "talk;" : ";");
        }
        return text.toString();
    }

    private void laySheet() throws ReflectiveOperationException {
        int k = any(4);
        int lane = any(3);
        int n = any(17);
        call("sheet", k, lane, n);
        int[] bounds = {70, 15, second.count(0), 9};
        for (int i = 0; i < n; i++) {
            int v = any(bounds[i % 4]) + (i % 2);
            if (random.nextInt(40) == 0) v = far();
            call("lay", k, random.nextInt(40) == 0 ? far() : i, v + (random.nextInt(20) == 0 ? 65536 : 0));
        }
        for (int i = 0; i < 3; i++) {
            call("read", k, random.nextInt(8) == 0 ? any(3) : lane, 4 * any(3), any(4));
            call("torn");
        }
    }
}
