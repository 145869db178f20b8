import java.util.Random;

/** Promises 4 to 8 over texts at random: a second reader, written another way, must find the same. */
public final class AnyTextTest {
    private static final Checks CHECK = new Checks("AnyTextTest");
    private static final String[] WORDS = SecondReader.WORDS;

    public static void main(String[] args) {
        Random random = new Random(19);
        for (int round = 0; round < 20000; round++) {
            StringBuilder text = new StringBuilder(goodText(random));
            if (random.nextInt(3) > 0) spoil(text, random);
            if (text.length() > 400) text.setLength(400);
            compare(text.toString());
        }
        CHECK.finish();
    }

    static String goodText(Random random) {
        StringBuilder text = new StringBuilder();
        int props = 0;
        int lines = random.nextInt(30);
        for (int i = 0; i < lines && text.length() < 360; i++) {
            int word = random.nextInt(12) < 8 ? random.nextInt(3) : random.nextInt(8);
            if (props < 2) word = 0;
            if (word == 0) props++;
            text.append(blanks(random, 0)).append(WORDS[word]);
            int[] numbers = numbersFor(word, props, random);
            for (int n = 0; n < numbers.length; n++) text.append(blanks(random, n > 0 ? 1 : 0)).append(numbers[n]);
            if (word == 2 && random.nextInt(3) == 0) text.append(blanks(random, 0)).append("talk");
            text.append(blanks(random, 0)).append(';');
        }
        return text.toString();
    }

    private static int[] numbersFor(int word, int props, Random random) {
        int begin = random.nextInt(500);
        int loud = 1 + random.nextInt(9);
        switch (word) {
            case 0: return new int[] {random.nextInt(6)};
            case 1: return new int[] {random.nextInt(props), random.nextInt(props)};
            case 2: return new int[] {begin, 1 + random.nextInt(Math.min(60, 500 - begin)), random.nextInt(props), loud};
            case 3: return new int[] {1 + random.nextInt(3)};
            case 7: return new int[] {begin, 1 + random.nextInt(500 - begin), loud};
            default: return new int[] {1 + random.nextInt(9)};
        }
    }

    private static String blanks(Random random, int atLeast) {
        return " ".repeat(atLeast + Math.max(0, random.nextInt(6) - 3));
    }

    static void spoil(StringBuilder text, Random random) {
        String signs = " ;0123456789.abpqz-";
        for (int n = 1 + random.nextInt(2); n > 0; n--) {
            int at = random.nextInt(text.length() + 1);
            char sign = random.nextInt(20) == 0 ? (char) random.nextInt(256) : signs.charAt(random.nextInt(signs.length()));
            switch (random.nextInt(5)) {
                case 0: text.insert(at, sign); break;
                case 1: if (at < text.length()) text.setCharAt(at, sign); break;
                case 2: if (at < text.length()) text.deleteCharAt(at); break;
                case 3: text.insert(at, WORDS[random.nextInt(9)]); break;
                default: text.setLength(at); break;
            }
        }
    }

    private static void compare(String text) {
        StepsByHand x = new StepsByHand();
        SecondReader reader = new SecondReader(text);
        reader.readAll();
        int answer = Checks.tell(x, text);
        CHECK.due("text of \"" + text + "\"", answer, reader.fault == 0 ? reader.lines : -10 - reader.at);
        CHECK.due("fault of \"" + text + "\"", x.fault(), reader.fault);
        boolean taken = reader.fault == 0;
        CHECK.due("props of \"" + text + "\"", x.count(0), taken ? reader.told[0] : 0);
        CHECK.due("cues of \"" + text + "\"", x.count(1), taken ? reader.told[2] : 0);
        CHECK.due("spans of \"" + text + "\"", x.count(2), taken ? reader.told[7] : 0);
        for (int c = 0; c < x.count(1); c++) {
            for (int what = 0; what < 5; what++) CHECK.due("cue of \"" + text + "\"", x.cue(c, what), reader.cues.get(c)[what]);
        }
    }
}
