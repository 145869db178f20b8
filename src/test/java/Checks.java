/** What the tests share: comparing answers, putting a text on THE TAPE. */
final class Checks {
    private final String name;
    private int wrong = 0;
    private int made = 0;

    Checks(String name) {
        this.name = name;
    }

    void due(String call, long got, long want) {
        made++;
        if (got == want) return;
        wrong++;
        if (wrong <= 50) System.out.println(name + ": " + call + " answered " + got + ", due is " + want);
    }

    void isTrue(String what, boolean holds) {
        due(what, holds ? 1 : 0, 1);
    }

    /** Puts a text on THE TAPE, which must be empty, byte for byte. */
    static void feedBytes(StepsByHand x, byte[] bytes) {
        for (int at = 0; at < bytes.length; at += 8) {
            long v = 0;
            for (int i = 0; i < 8; i++) v = v << 8 | (at + i < bytes.length ? bytes[at + i] & 255 : ' ');
            if (x.feed(v) < 0) throw new IllegalStateException("a text that is too long for THE TAPE");
        }
        x.end(bytes.length);
    }

    static int tell(StepsByHand x, String text) {
        byte[] bytes = new byte[text.length()];
        for (int i = 0; i < bytes.length; i++) bytes[i] = (byte) text.charAt(i);
        feedBytes(x, bytes);
        return x.text();
    }

    /** A new object that a text which must be taken has told. */
    static StepsByHand told(String text) {
        StepsByHand x = new StepsByHand();
        int lines = tell(x, text);
        if (lines < 0) throw new IllegalStateException("refused with " + lines + ": " + text);
        return x;
    }

    void finish() {
        System.out.println(name + ": " + made + " checks, " + wrong + " wrong");
        if (wrong != 0) System.exit(1);
    }
}
