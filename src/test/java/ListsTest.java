import java.util.Arrays;
import java.util.Random;

/** Promises 30 to 36: the reel cut anew, two lists joined. */
public final class ListsTest {
    private static final Checks CHECK = new Checks("ListsTest");

    public static void main(String[] args) {
        piecesComeAndGo();
        cuesOfTheNewReel();
        entriesComeAndGo();
        listsJoined();
        Random random = new Random(17);
        for (int round = 0; round < 400; round++) comparePieces(random);
        for (int round = 0; round < 1500; round++) compareJoined(random);
        CHECK.finish();
    }

    private static void piecesComeAndGo() {
        StepsByHand x = new StepsByHand();
        CHECK.due("piece(0, 501)", x.piece(0, 501), -1);
        CHECK.due("piece(0, 0)", x.piece(0, 0), -1);
        CHECK.due("piece(0, -1)", x.piece(0, -1), -1);
        CHECK.due("piece(-1, 1)", x.piece(-1, 1), -1);
        CHECK.due("piece(500, 1)", x.piece(500, 1), -1);
        CHECK.due("piece(499, 2)", x.piece(499, 2), -1);
        CHECK.due("piece(1, MAX)", x.piece(1, Integer.MAX_VALUE), -1);
        CHECK.due("no piece yet", x.count(5), 0);
        for (int i = 1; i <= 8; i++) CHECK.due("piece " + i, x.piece(i % 2 == 0 ? 0 : 499, i % 2 == 0 ? 500 : 1), i);
        CHECK.due("the 9th", x.piece(0, 1), -3);
        CHECK.due("the 9th, bad", x.piece(0, 0), -1);
        CHECK.due("anew(0)", x.anew(0), 2004);
        CHECK.due("count(5)", x.count(5), 8);
        CHECK.due("whole", x.whole(), 8);
        CHECK.due("whole again", x.whole(), 0);
        CHECK.due("anew(0) then", x.anew(0), 0);
        CHECK.due("anew(4)", x.anew(4), -1);
        CHECK.due("anew(-1)", x.anew(-1), -1);
        CHECK.due("moved of none", x.moved(0), -1);
    }

    private static void cuesOfTheNewReel() {
        StepsByHand x = Checks.told("prop 0;cue 10 10 0 1;cue 19 2 0 1;cue 20 1 0 1;cue 9 1 0 1;cue 5 20 0 1;");
        CHECK.due("all gone", x.anew(3), 31);
        x.piece(10, 10);
        CHECK.due("moves", x.anew(1), 1);
        CHECK.due("again", x.anew(2), 18);
        CHECK.due("gone", x.anew(3), 12);
        CHECK.due("moved(0)", x.moved(0), 0);
        CHECK.due("moved(1)", x.moved(1), -4);
        x.piece(0, 30);
        CHECK.due("all move", x.anew(1), 31);
        CHECK.due("with the first such", x.moved(0), 0);
        CHECK.due("with the second", x.moved(4), 15);
        CHECK.due("with the second, too", x.moved(3), 19);
        CHECK.due("moved(5)", x.moved(5), -1);
        CHECK.due("moved(-1)", x.moved(-1), -1);
        x.whole();
        x.piece(0, 15);
        x.piece(15, 15);
        CHECK.due("over a seam it is whole in none", x.moved(0), -4);
        CHECK.due("over a seam again", x.anew(2), 17);
    }

    private static void comparePieces(Random random) {
        StepsByHand x = new StepsByHand();
        StringBuilder text = new StringBuilder("prop 0;");
        for (int c = 0; c < 8; c++) text.append("cue ").append(random.nextInt(80)).append(' ').append(1 + random.nextInt(20)).append(" 0 1;");
        Checks.tell(x, text.toString());
        int[] frameOf = new int[4000];
        int[] pieceOf = new int[4000];
        int frames = 0;
        int pieces = random.nextInt(6);
        for (int p = 0; p < pieces; p++) {
            int f = random.nextInt(80);
            int n = 1 + random.nextInt(40);
            x.piece(f, n);
            for (int i = 0; i < n; i++) {
                frameOf[frames] = f + i;
                pieceOf[frames++] = p;
            }
        }
        CHECK.due("anew(0)", x.anew(0), frames);
        int[] fates = new int[4];
        for (int c = 0; c < 8; c++) {
            int begin = x.cue(c, 0);
            int last = begin + x.cue(c, 1) - 1;
            int at = -4;
            boolean some = false;
            for (int f = 0; f < frames; f++) {
                some |= frameOf[f] >= begin && frameOf[f] <= last;
                int end = f + last - begin;
                boolean whole = frameOf[f] == begin && end < frames && pieceOf[end] == pieceOf[f];
                if (whole && at == -4) at = f;
            }
            fates[at >= 0 ? 1 : some ? 2 : 3] |= 1 << c;
            CHECK.due("moved(" + c + ") of " + text, x.moved(c), at);
        }
        for (int what = 1; what <= 3; what++) CHECK.due("anew(" + what + ") of " + text, x.anew(what), fates[what]);
    }

    private static void entriesComeAndGo() {
        StepsByHand x = new StepsByHand();
        CHECK.due("entry(2, 0, 0)", x.entry(2, 0, 0), -1);
        CHECK.due("entry(-1, 0, 0)", x.entry(-1, 0, 0), -1);
        CHECK.due("entry(0, 500, 0)", x.entry(0, 500, 0), -1);
        CHECK.due("entry(0, -1, 0)", x.entry(0, -1, 0), -1);
        CHECK.due("entry(0, 0, 8)", x.entry(0, 0, 8), -1);
        CHECK.due("entry(0, 0, -1)", x.entry(0, 0, -1), -1);
        for (int i = 1; i <= 12; i++) CHECK.due("entry " + i, x.entry(0, 7, 7), i);
        CHECK.due("the 13th", x.entry(0, 7, 7), -3);
        CHECK.due("the 13th, ahead", x.entry(0, 6, 7), -1);
        CHECK.due("the other list", x.entry(1, 499, 0), 1);
        CHECK.due("ahead in the other list", x.entry(1, 498, 0), -1);
        CHECK.due("count(6)", x.count(6), 12);
        CHECK.due("count(7)", x.count(7), 1);
        CHECK.due("tear", x.tear(), 13);
        CHECK.due("tear again", x.tear(), 0);
        CHECK.due("count(6) then", x.count(6), 0);
        CHECK.due("from the first frame anew", x.entry(1, 0, 0), 1);
    }

    private static void listsJoined() {
        StepsByHand x = new StepsByHand();
        x.entry(0, 10, 1);
        x.entry(1, 5, 1);
        x.entry(1, 15, 1);
        CHECK.due("4 apart", x.joined(4, 0), 0);
        CHECK.due("4 apart, partner", x.joined(4, 10), -4);
        CHECK.due("5 apart", x.joined(5, 0), 1);
        CHECK.due("5 apart, the least partner", x.joined(5, 10), 0);
        CHECK.due("alone of 0", x.joined(5, 1), 0);
        CHECK.due("alone of 1", x.joined(5, 2), 1);
        CHECK.due("joined(100, 0)", x.joined(100, 0), -1);
        CHECK.due("joined(-1, 0)", x.joined(-1, 0), -1);
        CHECK.due("joined(99, 0)", x.joined(99, 0), 1);
        for (int what = 3; what <= 9; what++) CHECK.due("joined(5, " + what + ")", x.joined(5, what), -1);
        CHECK.due("joined(5, -1)", x.joined(5, -1), -1);
        CHECK.due("joined(5, 11)", x.joined(5, 11), -1);
        CHECK.due("joined(5, MAX)", x.joined(5, Integer.MAX_VALUE), -1);
        CHECK.due("joined(5, MIN)", x.joined(5, Integer.MIN_VALUE), -1);
        x.entry(0, 20, 1);
        CHECK.due("both", x.joined(10, 0), 2);
        CHECK.due("both, the first", x.joined(10, 10), 0);
        CHECK.due("both, the second", x.joined(10, 11), 1);
        x.tear();
        for (int i = 0; i < 12; i++) {
            x.entry(0, i, i % 8);
            x.entry(1, i, i % 8);
        }
        CHECK.due("all twelve", x.joined(0, 0), 12);
        CHECK.due("the last of twelve", x.joined(0, 21), 11);
        CHECK.due("behind the last of twelve", x.joined(0, 22), -1);
    }

    private static void compareJoined(Random random) {
        StepsByHand x = new StepsByHand();
        int[][] frames = {rising(random), rising(random)};
        int[][] props = {new int[frames[0].length], new int[frames[1].length]};
        int kinds = 1 + random.nextInt(3);
        for (int list = 0; list < 2; list++) {
            for (int i = 0; i < frames[list].length; i++) {
                props[list][i] = random.nextInt(kinds);
                x.entry(list, frames[list][i], props[list][i]);
            }
        }
        int t = random.nextInt(12);
        AllWays ways = new AllWays(frames, props, t);
        ways.pair(0, 0, 0);
        String where = Arrays.deepToString(frames) + Arrays.deepToString(props) + t;
        CHECK.due("pairs of " + where, x.joined(t, 0), ways.most);
        CHECK.due("alone of 0 " + where, x.joined(t, 1), frames[0].length - ways.most);
        CHECK.due("alone of 1 " + where, x.joined(t, 2), frames[1].length - ways.most);
        for (int i = 0; i < frames[0].length; i++) CHECK.due("partner of " + i + " " + where, x.joined(t, 10 + i), ways.best[i]);
    }

    private static int[] rising(Random random) {
        int[] frames = new int[random.nextInt(7)];
        int f = random.nextInt(5);
        for (int i = 0; i < frames.length; i++) {
            frames[i] = f;
            f += random.nextInt(6);
        }
        return frames;
    }

    /** All pairings, each entry with its least partner first and with none behind all: the first with the most stays. */
    private static final class AllWays {
        final int[][] frames;
        final int[][] props;
        final int t;
        final int[] now;
        int[] best;
        int most = -1;

        AllWays(int[][] frames, int[][] props, int t) {
            this.frames = frames;
            this.props = props;
            this.t = t;
            now = new int[frames[0].length];
            best = now.clone();
        }

        void pair(int i, int free, int pairs) {
            if (i == now.length) {
                if (pairs > most) {
                    most = pairs;
                    best = now.clone();
                }
                return;
            }
            for (int j = free; j < frames[1].length; j++) {
                if (props[0][i] != props[1][j] || Math.abs(frames[0][i] - frames[1][j]) > t) continue;
                now[i] = j;
                pair(i + 1, j + 1, pairs + 1);
            }
            now[i] = -4;
            pair(i + 1, free, pairs);
        }
    }
}
