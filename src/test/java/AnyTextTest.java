import java.util.HashSet;
import java.util.Random;
import java.util.Set;
import java.util.regex.Matcher;
import java.util.regex.Pattern;

/** Promises 4 to 8 over texts at random: a second reader, written another way, must find the same. */
public final class AnyTextTest {
    private static final Checks CHECK = new Checks("AnyTextTest");
    private static final String[] WORDS = {"prop", "stands", "cue", "walkers", "move", "tail", "most", "speech", "talk"};
    private static final String[] SHAPES = {"n", "nn", "nnnn", "n", "n", "n", "n", "nnn"};

    public static void main(String[] args) {
        Random random = new Random(19);
        for (int round = 0; round < 20000; round++) {
            StringBuilder text = new StringBuilder(goodText(random));
            if (random.nextInt(3) > 0) spoil(text, random);
            if (text.length() > 400) text.setLength(400);
            compare(text.toString());
        }
        CHECK.finish();
    }

    private static String goodText(Random random) {
        StringBuilder text = new StringBuilder();
        int props = 0;
        int lines = random.nextInt(30);
        for (int i = 0; i < lines && text.length() < 360; i++) {
            int word = random.nextInt(12) < 8 ? random.nextInt(3) : random.nextInt(8);
            if (props < 2) word = 0;
            if (word == 0) props++;
            text.append(blanks(random, 0)).append(WORDS[word]);
            int[] numbers = numbersFor(word, props, random);
            for (int n = 0; n < numbers.length; n++) text.append(blanks(random, n > 0 ? 1 : 0)).append(numbers[n]);
            if (word == 2 && random.nextInt(3) == 0) text.append(blanks(random, 0)).append("talk");
            text.append(blanks(random, 0)).append(';');
        }
        return text.toString();
    }

    private static int[] numbersFor(int word, int props, Random random) {
        int begin = random.nextInt(500);
        int loud = 1 + random.nextInt(9);
        switch (word) {
            case 0: return new int[] {random.nextInt(6)};
            case 1: return new int[] {random.nextInt(props), random.nextInt(props)};
            case 2: return new int[] {begin, 1 + random.nextInt(Math.min(60, 500 - begin)), random.nextInt(props), loud};
            case 3: return new int[] {1 + random.nextInt(3)};
            case 7: return new int[] {begin, 1 + random.nextInt(500 - begin), loud};
            default: return new int[] {1 + random.nextInt(9)};
        }
    }

    private static String blanks(Random random, int atLeast) {
        return " ".repeat(atLeast + Math.max(0, random.nextInt(6) - 3));
    }

    private static void spoil(StringBuilder text, Random random) {
        String signs = " ;0123456789.abpqz-";
        for (int n = 1 + random.nextInt(2); n > 0; n--) {
            int at = random.nextInt(text.length() + 1);
            char sign = random.nextInt(20) == 0 ? (char) random.nextInt(256) : signs.charAt(random.nextInt(signs.length()));
            switch (random.nextInt(5)) {
                case 0: text.insert(at, sign); break;
                case 1: if (at < text.length()) text.setCharAt(at, sign); break;
                case 2: if (at < text.length()) text.deleteCharAt(at); break;
                case 3: text.insert(at, WORDS[random.nextInt(9)]); break;
                default: text.setLength(at); break;
            }
        }
    }

    private static void compare(String text) {
        StepsByHand x = new StepsByHand();
        SecondReader reader = new SecondReader(text);
        reader.readAll();
        int answer = Checks.tell(x, text);
        CHECK.due("text of \"" + text + "\"", answer, reader.fault == 0 ? reader.lines : -10 - reader.at);
        CHECK.due("fault of \"" + text + "\"", x.fault(), reader.fault);
        boolean taken = reader.fault == 0;
        CHECK.due("props of \"" + text + "\"", x.count(0), taken ? reader.told[0] : 0);
        CHECK.due("cues of \"" + text + "\"", x.count(1), taken ? reader.told[2] : 0);
        CHECK.due("spans of \"" + text + "\"", x.count(2), taken ? reader.told[7] : 0);
        for (int c = 0; c < x.count(1); c++) {
            for (int what = 0; what < 5; what++) CHECK.due("cue of \"" + text + "\"", x.cue(c, what), reader.cues[c][what]);
        }
    }

    /** Takes tokens by regular expressions and lines by their shapes. */
    private static final class SecondReader {
        static final Pattern TOKEN = Pattern.compile(" *([a-z]+|[0-9]+|;|$)");

        final String text;
        final int[] told = new int[8];
        final int[][] cues = new int[16][5];
        final Set<Integer> stands = new HashSet<>();
        int lines = 0;
        int fault = 0;
        int at = 0;
        int place = 0;
        String token = "";

        SecondReader(String text) {
            this.text = text;
        }

        void stop(int kind) {
            if (fault == 0) fault = kind;
        }

        boolean next() {
            Matcher m = TOKEN.matcher(text).region(place, text.length());
            if (!m.lookingAt()) {
                at = place;
                while (text.charAt(at) == ' ') at++;
                stop(1);
                return false;
            }
            token = m.group(1);
            at = m.start(1);
            place = m.end();
            if (token.matches("[0-9]{4,}")) stop(1);
            return fault == 0;
        }

        void readAll() {
            while (next() && !token.isEmpty()) {
                int word = -1;
                for (int w = 0; w < 8; w++) word = token.equals(WORDS[w]) ? w : word;
                if (word < 0) stop(2);
                else readLine(word);
                if (fault != 0) return;
                lines++;
            }
        }

        void readLine(int word) {
            int limit = word == 0 || word == 7 ? 8 : word == 2 ? 16 : 1;
            if (word != 1 && told[word] == limit) stop(limit == 1 ? 4 : 5);
            int[] numbers = new int[4];
            for (int n = 0; n < SHAPES[word].length() && fault == 0; n++) {
                if (!next()) return;
                if (!token.matches("[0-9]+")) stop(2);
                else if (!isWithin(word, n, numbers, Integer.parseInt(token))) stop(3);
                else numbers[n] = Integer.parseInt(token);
                if (fault == 0 && word == 1 && n == 1 && !stands.add(numbers[0] * 8 + numbers[1])) stop(4);
            }
            if (fault != 0 || !next()) return;
            boolean talk = word == 2 && token.equals("talk");
            if (talk && !next()) return;
            if (!token.equals(";")) stop(2);
            if (word == 2) cues[told[2]] = new int[] {numbers[0], numbers[1], numbers[2], numbers[3], talk ? 1 : 0};
            told[word]++;
        }

        boolean isWithin(int word, int n, int[] ahead, int v) {
            switch (word * 10 + n) {
                case 0: return v <= 5;
                case 10: return v < told[0];
                case 11: return v < told[0] && v != ahead[0];
                case 20: return v <= 499;
                case 21: return v >= 1 && v <= 60 && ahead[0] + v <= 500;
                case 22: return v < told[0];
                case 23: return v >= 1 && v <= 9;
                case 30: return v >= 1 && v <= 3;
                case 40: return v <= 9;
                case 50: return v >= 1 && v <= 9;
                case 60: return v >= 1 && v <= 99;
                case 70: return v <= 499;
                case 71: return v >= 1 && ahead[0] + v <= 500;
                default: return v >= 1 && v <= 9;
            }
        }
    }
}
