/** Promises 37 to 41: sheets, cues read from them, how many there are of all. */
public final class SheetsTest {
    private static final Checks CHECK = new Checks("SheetsTest");

    public static void main(String[] args) {
        sheetsAreMade();
        cellsKeepTheirLowestBits();
        cuesAreRead();
        whatTheMachineFinds();
        cuesNotAsTold();
        theSeventeenth();
        wrongNumbers();
        counts();
        CHECK.finish();
    }

    private static void sheetsAreMade() {
        StepsByHand x = new StepsByHand();
        CHECK.due("sheet(4, 0, 1)", x.sheet(4, 0, 1), -1);
        CHECK.due("sheet(-1, 0, 1)", x.sheet(-1, 0, 1), -1);
        CHECK.due("sheet(0, 3, 1)", x.sheet(0, 3, 1), -1);
        CHECK.due("sheet(0, -1, 1)", x.sheet(0, -1, 1), -1);
        CHECK.due("sheet(0, 0, 41)", x.sheet(0, 0, 41), -1);
        CHECK.due("sheet(0, 0, -1)", x.sheet(0, 0, -1), -14);
        CHECK.due("sheet(0, 3, -1)", x.sheet(0, 3, -1), -1);
        CHECK.due("sheet(4, 0, -1)", x.sheet(4, 0, -1), -1);
        CHECK.due("sheet(0, 0, MIN)", x.sheet(0, 0, Integer.MIN_VALUE), -14);
        CHECK.due("still nothing", x.count(9), -4);
        CHECK.due("sheet(0, 0, 40)", x.sheet(0, 0, 40), 1);
        CHECK.due("40 cells", x.count(9), 40);
        CHECK.due("refused", x.sheet(0, 0, -1), -14);
        CHECK.due("still 40 cells", x.count(9), 40);
        CHECK.due("sheet(0, 0, 0)", x.sheet(0, 0, 0), 1);
        CHECK.due("0 cells", x.count(9), 0);
        CHECK.due("sheet(3, 2, 1)", x.sheet(3, 2, 1), 1);
        CHECK.due("lay(0, 0, 1)", x.lay(0, 0, 1), -12);
        CHECK.due("lay(1, 0, 1)", x.lay(1, 0, 1), -11);
        CHECK.due("lay(1, -1, 1)", x.lay(1, -1, 1), -11);
        CHECK.due("lay(3, 0, 1)", x.lay(3, 0, 1), 1);
        CHECK.due("lay(3, 1, 1)", x.lay(3, 1, 1), -12);
        CHECK.due("lay(3, -1, 1)", x.lay(3, -1, 1), -12);
        CHECK.due("lay(3, MAX, 1)", x.lay(3, Integer.MAX_VALUE, 1), -12);
        CHECK.due("lay(4, 0, 1)", x.lay(4, 0, 1), -1);
        CHECK.due("lay(-1, 0, 1)", x.lay(-1, 0, 1), -1);
    }

    private static void layCue(StepsByHand x, int k, int at, int... cells) {
        for (int i = 0; i < cells.length; i++) x.lay(k, at + i, cells[i]);
    }

    private static void cellsKeepTheirLowestBits() {
        StepsByHand x = Checks.told("prop 0;");
        for (int lane = 0; lane < 3; lane++) x.sheet(lane, lane, 8);
        layCue(x, 0, 0, 256 + 127, 1 - 256, 512, -247);
        CHECK.due("bytes", x.read(0, 0, 0, 1), 1);
        CHECK.due("bytes, frame", x.cue(0, 0), 127);
        CHECK.due("bytes, how long", x.cue(0, 1), 1);
        CHECK.due("bytes, loud", x.cue(0, 3), 9);
        x.lay(0, 0, 128);
        CHECK.due("bytes have a sign", x.read(0, 0, 0, 1), -20);
        layCue(x, 1, 0, 65536 + 400, 5, 0, 1);
        CHECK.due("shorts", x.read(1, 1, 0, 1), 1);
        CHECK.due("shorts, frame", x.cue(1, 0), 400);
        x.lay(1, 0, 32768);
        CHECK.due("shorts have a sign", x.read(1, 1, 0, 1), -20);
        layCue(x, 2, 0, 400, 5, 0, 1);
        CHECK.due("ints", x.read(2, 2, 0, 1), 1);
        x.lay(2, 0, 65536 + 400);
        CHECK.due("ints keep all", x.read(2, 2, 0, 1), -20);
        x.sheet(2, 2, 8);
        CHECK.due("a new row is of 0", x.read(2, 2, 0, 1), -20);
        layCue(x, 2, 0, 0, 1, 0, 1);
        x.sheet(2, 2, 2);
        x.sheet(2, 2, 8);
        CHECK.due("cells of before do not come back", x.read(2, 2, 0, 1), -20);
        x.lay(2, 0, 5);
        x.sheet(2, 2, 4);
        layCue(x, 2, 1, 1, 0, 1);
        CHECK.due("the first cell is 0, too", x.read(2, 2, 0, 1), 1);
        CHECK.due("so the cue begins there", x.cue(3, 0), 0);
    }

    private static void cuesAreRead() {
        StepsByHand x = Checks.told("prop 0;prop 1;cue 1 1 0 1 talk;");
        x.sheet(1, 1, 40);
        for (int i = 0; i < 10; i++) layCue(x, 1, 4 * i, 10 * i, 60 - i, i % 2, 9 - i % 9);
        CHECK.due("ten of them", x.read(1, 1, 0, 10), 10);
        CHECK.due("no fault", x.torn(), 0);
        CHECK.due("eleven then", x.count(1), 11);
        for (int i = 0; i < 10; i++) {
            int[] due = {10 * i, 60 - i, i % 2, 9 - i % 9, 0};
            for (int what = 0; what < 5; what++) CHECK.due("cue read " + i + " " + what, x.cue(i + 1, what), due[what]);
        }
        CHECK.due("the one told stays", x.cue(0, 4), 1);
        CHECK.due("from a cell on", x.read(1, 1, 36, 1), 1);
        CHECK.due("its frame", x.cue(11, 0), 90);
        Checks.tell(x, "prop 0;" + "cue 1 1 0 1 talk;".repeat(16));
        Checks.tell(x, "prop 0;prop 0;");
        CHECK.due("behind a text with TALK", x.read(1, 1, 0, 1), 1);
        CHECK.due("not on the TALK track", x.cue(0, 4), 0);
    }

    private static void torn(StepsByHand x, int k, int lane, int f, int n, int came, int fault) {
        String call = "read(" + k + ", " + lane + ", " + f + ", " + n + ")";
        int before = x.count(1);
        CHECK.due(call, x.read(k, lane, f, n), came);
        CHECK.due("torn behind " + call, x.torn(), fault);
        CHECK.due("cues behind " + call, x.count(1), before + came);
    }

    private static void whatTheMachineFinds() {
        StepsByHand x = Checks.told("prop 0;");
        x.sheet(0, 1, 11);
        layCue(x, 0, 0, 0, 1, 0, 1, 5, 1, 0, 2, 9, 1, 0);
        torn(x, 0, 1, 0, 2, 2, 0);
        torn(x, 0, 1, 0, 3, 2, 2);
        torn(x, 0, 1, 4, 2, 1, 2);
        torn(x, 0, 1, 8, 1, 0, 2);
        torn(x, 0, 1, -1, 1, 0, 2);
        torn(x, 0, 1, -4, 10, 0, 2);
        torn(x, 0, 1, Integer.MAX_VALUE, 1, 0, 2);
        torn(x, 0, 1, Integer.MAX_VALUE - 2, 1, 0, 2);
        torn(x, 0, 1, Integer.MIN_VALUE, 10, 0, 2);
        torn(x, 0, 0, 0, 1, 0, 3);
        torn(x, 0, 2, -1, 1, 0, 3);
        torn(x, 1, 1, 0, 1, 0, 1);
        torn(x, 1, 0, -1, 10, 0, 1);
        torn(x, 1, 0, 0, 0, 0, 0);
        torn(x, 0, 1, 0, 3, 2, 2);
        torn(x, 0, 0, -9, 0, 0, 0);
        torn(x, 0, 1, 0, 3, 2, 2);
        CHECK.due("refused", x.read(0, 1, 0, 11), -1);
        CHECK.due("a read that is refused leaves it", x.torn(), 2);
        x.lay(0, 1, 0);
        CHECK.due("not as told", x.read(0, 1, 0, 1), -20);
        CHECK.due("that leaves it, too", x.torn(), 2);
        x.sheet(2, 1, 0);
        torn(x, 2, 1, 0, 1, 0, 2);
    }

    private static void cuesNotAsTold() {
        int[][] wrong = {{-1, 1, 0, 1}, {500, 1, 0, 1}, {0, 0, 0, 1}, {0, 61, 0, 1}, {499, 2, 0, 1}, {441, 60, 0, 1},
            {0, -1, 0, 1}, {0, 1, 1, 1}, {0, 1, -1, 1}, {0, 1, 0, 0}, {0, 1, 0, 10}, {Integer.MAX_VALUE, 60, 0, 1}, {0, 1, 32, 1}};
        for (int[] cells : wrong) {
            StepsByHand x = Checks.told("prop 0;cue 1 1 0 1;");
            x.sheet(0, 2, 12);
            layCue(x, 0, 0, 440, 60, 0, 9, 499, 1, 0, 1);
            layCue(x, 0, 8, cells);
            CHECK.due("the third is not as told", x.read(0, 2, 0, 3), -22);
            CHECK.due("none came", x.count(1), 1);
            CHECK.due("the first two are", x.read(0, 2, 0, 2), 2);
            CHECK.due("alone it is the first", x.read(0, 2, 8, 1), -20);
            CHECK.due("met ahead of the fault behind it", x.read(0, 2, 8, 2), -20);
        }
        StepsByHand none = new StepsByHand();
        none.sheet(0, 0, 4);
        layCue(none, 0, 0, 0, 1, 0, 1);
        CHECK.due("no prop is told", none.read(0, 0, 0, 1), -20);
    }

    private static void theSeventeenth() {
        StepsByHand x = Checks.told("prop 0;" + "cue 1 1 0 1;".repeat(14));
        x.sheet(0, 1, 14);
        layCue(x, 0, 0, 0, 1, 0, 1, 5, 1, 0, 2, 9, 1, 0, 3);
        CHECK.due("the 17th", x.read(0, 1, 0, 3), -3);
        CHECK.due("none came", x.count(1), 14);
        CHECK.due("the 17th is not whole", x.read(0, 1, 4, 3), 2);
        CHECK.due("its fault", x.torn(), 2);
        CHECK.due("16 then", x.count(1), 16);
        CHECK.due("one more", x.read(0, 1, 0, 1), -3);
        CHECK.due("that leaves the fault", x.torn(), 2);
        CHECK.due("a 17th that is torn", x.read(0, 0, 0, 1), 0);
        CHECK.due("its fault then", x.torn(), 3);
        x.lay(0, 3, 0);
        CHECK.due("a 17th that is not as told", x.read(0, 1, 0, 1), -20);
        CHECK.due("none of none", x.read(0, 1, 0, 0), 0);
    }

    private static void wrongNumbers() {
        StepsByHand x = new StepsByHand();
        CHECK.due("read(4, 0, 0, 0)", x.read(4, 0, 0, 0), -1);
        CHECK.due("read(-1, 0, 0, 0)", x.read(-1, 0, 0, 0), -1);
        CHECK.due("read(0, 3, 0, 0)", x.read(0, 3, 0, 0), -1);
        CHECK.due("read(0, -1, 0, 0)", x.read(0, -1, 0, 0), -1);
        CHECK.due("read(0, 0, 0, 11)", x.read(0, 0, 0, 11), -1);
        CHECK.due("read(0, 0, 0, -1)", x.read(0, 0, 0, -1), -1);
    }

    private static void counts() {
        StepsByHand x = Checks.told("prop 0;prop 0;prop 0;cue 1 1 0 1;cue 1 1 0 1;speech 1 1 1;");
        x.hit(0, 1);
        x.hit(0, 2);
        x.hit(0, 3);
        x.hit(0, 4);
        for (int f = 0; f < 5; f++) x.hit(1, f);
        for (int f = 0; f < 6; f++) x.piece(f, 1);
        for (int f = 0; f < 7; f++) x.entry(0, f, 1);
        for (int f = 0; f < 8; f++) x.entry(1, f, 1);
        x.feed(0);
        x.feed(0);
        x.end(9);
        x.sheet(0, 0, 10);
        int[] due = {3, 2, 1, 4, 5, 6, 7, 8, 9, 10};
        for (int what = 0; what < 10; what++) CHECK.due("count(" + what + ")", x.count(what), due[what]);
        CHECK.due("count(10)", x.count(10), -1);
        CHECK.due("count(-1)", x.count(-1), -1);
    }
}
