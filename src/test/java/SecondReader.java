import java.util.ArrayList;
import java.util.HashSet;
import java.util.List;
import java.util.Set;
import java.util.regex.Matcher;
import java.util.regex.Pattern;

/** Reads a text another way: tokens by regular expressions, lines by their shapes. */
final class SecondReader {
    static final String[] WORDS = {"prop", "stands", "cue", "walkers", "move", "tail", "most", "speech", "talk"};
    private static final int[] NUMBERS = {1, 2, 4, 1, 1, 1, 1, 3};
    private static final Pattern TOKEN = Pattern.compile(" *([a-z]+|[0-9]+|;|$)");

    final String text;
    final int[] told = new int[8];
    final List<Integer> trays = new ArrayList<>();
    final List<int[]> cues = new ArrayList<>();
    final List<int[]> spans = new ArrayList<>();
    final int[] rules = {2, 2, 1, 99};
    final Set<Integer> stands = new HashSet<>();
    int lines = 0;
    int fault = 0;
    int at = 0;
    private int place = 0;
    private String token = "";

    SecondReader(String text) {
        this.text = text;
    }

    private void stop(int kind) {
        if (fault == 0) fault = kind;
    }

    private boolean next() {
        Matcher m = TOKEN.matcher(text).region(place, text.length());
        if (!m.lookingAt()) {
            at = place;
            while (text.charAt(at) == ' ') at++;
            stop(1);
            return false;
        }
        token = m.group(1);
        at = m.start(1);
        place = m.end();
        if (token.matches("[0-9]{4,}")) stop(1);
        return fault == 0;
    }

    void readAll() {
        while (next() && !token.isEmpty()) {
            int word = -1;
            for (int w = 0; w < 8; w++) word = token.equals(WORDS[w]) ? w : word;
            if (word < 0) stop(2);
            else readLine(word);
            if (fault != 0) return;
            lines++;
        }
    }

    private void readLine(int word) {
        int limit = word == 0 || word == 7 ? 8 : word == 2 ? 16 : 1;
        if (word != 1 && told[word] == limit) stop(limit == 1 ? 4 : 5);
        int[] numbers = new int[5];
        for (int n = 0; n < NUMBERS[word] && fault == 0; n++) {
            if (!next()) return;
            if (!token.matches("[0-9]+")) stop(2);
            else if (!isWithin(word, n, numbers, Integer.parseInt(token))) stop(3);
            else numbers[n] = Integer.parseInt(token);
            if (fault == 0 && word == 1 && n == 1 && !stands.add(numbers[0] * 8 + numbers[1])) stop(4);
        }
        if (fault != 0 || !next()) return;
        boolean talk = word == 2 && token.equals("talk");
        if (talk && !next()) return;
        if (!token.equals(";")) stop(2);
        numbers[4] = talk ? 1 : 0;
        if (fault == 0) keep(word, numbers);
    }

    private void keep(int word, int[] numbers) {
        told[word]++;
        if (word == 0) trays.add(numbers[0]);
        if (word == 2) cues.add(numbers);
        if (word == 7) spans.add(numbers);
        if (word >= 3 && word <= 6) rules[word - 3] = numbers[0];
    }

    private boolean isWithin(int word, int n, int[] ahead, int v) {
        switch (word * 10 + n) {
            case 0: return v <= 5;
            case 10: return v < told[0];
            case 11: return v < told[0] && v != ahead[0];
            case 20: return v <= 499;
            case 21: return v >= 1 && v <= 60 && ahead[0] + v <= 500;
            case 22: return v < told[0];
            case 23: return v >= 1 && v <= 9;
            case 30: return v >= 1 && v <= 3;
            case 40: return v <= 9;
            case 50: return v >= 1 && v <= 9;
            case 60: return v >= 1 && v <= 99;
            case 70: return v <= 499;
            case 71: return v >= 1 && ahead[0] + v <= 500;
            default: return v >= 1 && v <= 9;
        }
    }
}
