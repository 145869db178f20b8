/** The edges of promises 37 to 41: sheet, lay, read, torn, count. */
public final class SheetsEdgesTest {
    private static final Edges EDGE = new Edges("SheetsEdgesTest");
    private static final int BAD = Room.BAD, FULL = Room.FULL, NONE = Room.NONE;
    private static final int FAR = Room.GREATEST_INT, FAR_BELOW = Room.LEAST_INT;

    public static void main(String[] args) {
        sheetsOfAllSizes();
        newRowsOfNothing();
        sheetRefused();
        layInEveryCell();
        layRefused();
        lowestBits();
        readFirstAndLast();
        readNone();
        readNull();
        readCast();
        readIndex();
        readTorn();
        readBounds();
        readNotAsTold();
        readTheSeventeenth();
        readRefused();
        tornOfTheLatest();
        countsAtTheEdges();
        countRefused();
        EDGE.finish(37, 41);
    }

    private static void sheetsOfAllSizes() {
        EDGE.words(37, "SHEETS 0 to 3; lanes 0 to 2; with 0 to 40 CELLS: 1");
        for (int k = 0; k < 4; k++) {
            for (int lane = 0; lane < 3; lane++) {
                for (int n = 0; n <= 40; n += 40) {
                    StepsByHand x = new StepsByHand();
                    EDGE.due("sheet(" + k + ", " + lane + ", " + n + ")", x.sheet(k, lane, n), 1);
                    EDGE.due("its last CELL", x.lay(k, n - 1, 0), n == 0 ? -12 : 1);
                    EDGE.due("the CELL behind", x.lay(k, n, 0), -12);
                    EDGE.due("count(9)", x.count(9), k == 0 ? n : NONE);
                    EDGE.due("the other SHEETS are nothing", x.lay((k + 1) % 4, 0, 0), -11);
                }
            }
        }
    }

    /** Three cells of a cue are laid anew: what the fourth one holds is the frame. */
    private static int frameBehindLay(StepsByHand x, int k, int lane, int at) {
        Room.lay(x, k, at + 1, 1, 0, 1);
        int before = x.count(1);
        int came = x.read(k, lane, at, 1);
        return came == 1 ? x.cue(before, 0) : came;
    }

    private static void newRowsOfNothing() {
        EDGE.words(37, "A SHEET is a new row of CELLS 0");
        for (int lane = 0; lane < 3; lane++) {
            StepsByHand x = Checks.told("prop 0;");
            x.sheet(2, lane, 40);
            for (int i = 0; i < 40; i++) x.lay(2, i, 77);
            EDGE.due("laid", frameBehindLay(x, 2, lane, 0), 77);
            x.sheet(2, lane, 40);
            EDGE.due("the first CELL of a new row", frameBehindLay(x, 2, lane, 0), 0);
            EDGE.due("the last CUE of a new row", frameBehindLay(x, 2, lane, 36), 0);
            for (int i = 0; i < 40; i++) x.lay(2, i, 77);
            x.sheet(2, lane, 4);
            x.sheet(2, lane, 40);
            EDGE.due("a CELL that was in no row for a while", frameBehindLay(x, 2, lane, 4), 0);
            for (int i = 0; i < 40; i++) x.lay(2, i, 77);
            x.sheet(2, (lane + 1) % 3, 40);
            EDGE.due("of another lane", frameBehindLay(x, 2, (lane + 1) % 3, 0), 0);
            EDGE.due("a new row in place of what there was", x.sheet(2, lane, 0), 1);
            EDGE.due("none of its CELLS is left", x.lay(2, 0, 1), -12);
        }
    }

    private static void sheetRefused() {
        EDGE.words(37, "BAD: there is no such SHEET");
        EDGE.from(Room::some);
        EDGE.outside("sheet(#, 0, 5)", 0, 3, BAD, (x, v) -> x.sheet(v, 0, 5));
        EDGE.words(37, "BAD: no such lane");
        EDGE.outside("sheet(0, #, 5)", 0, 2, BAD, (x, v) -> x.sheet(0, v, 5));
        EDGE.outside("sheet(3, #, 0)", 0, 2, BAD, (x, v) -> x.sheet(3, v, 0));
        EDGE.words(37, "BAD: also n above 40");
        int[] above = {41, 42, 1000, FAR - 1, FAR};
        for (int n : above) EDGE.refused("sheet(0, 0, " + n + ")", BAD, x -> x.sheet(0, 0, n));
        EDGE.words(37, "-14 (SIZE): n below 0");
        int[] below = {-1, -2, -40, FAR_BELOW + 1, FAR_BELOW};
        for (int n : below) {
            EDGE.refused("sheet(0, 0, " + n + ")", -14, x -> x.sheet(0, 0, n));
            EDGE.refused("sheet(3, 2, " + n + ")", -14, x -> x.sheet(3, 2, n));
        }
        EDGE.words(37, "the first that fits: BAD ahead of SIZE");
        EDGE.outside("sheet(#, 0, -1)", 0, 3, BAD, (x, v) -> x.sheet(v, 0, -1));
        EDGE.outside("sheet(0, #, -1)", 0, 2, BAD, (x, v) -> x.sheet(0, v, -1));
    }

    private static void layInEveryCell() {
        EDGE.words(38, "CELL i of a SHEET becomes v: 1");
        for (int k = 0; k < 4; k++) {
            StepsByHand x = Checks.told("prop 0;");
            x.sheet(k, 1, 40);
            for (int i = 0; i < 40; i++) EDGE.due("lay(" + k + ", " + i + ", ..)", x.lay(k, i, i % 4 == 0 ? 100 + i : i % 4 == 2 ? 0 : i / 4 % 9 + 1), 1);
            EDGE.due("read of " + k, x.read(k, 1, 0, 10), 10);
            for (int c = 0; c < 10; c++) {
                EDGE.due("CELL " + 4 * c, x.cue(c, 0), 100 + 4 * c);
                EDGE.due("CELL " + (4 * c + 1), x.cue(c, 1), c % 9 + 1);
                EDGE.due("CELL " + (4 * c + 3), x.cue(c, 3), c % 9 + 1);
            }
        }
    }

    private static void layRefused() {
        EDGE.words(38, "BAD: k");
        EDGE.from(Room::some);
        EDGE.outside("lay(#, 0, 1)", 0, 3, BAD, (x, v) -> x.lay(v, 0, 1));
        EDGE.outside("lay(#, -1, 1)", 0, 3, BAD, (x, v) -> x.lay(v, -1, 1));
        EDGE.words(38, "-10 less the FAULT: INDEX");
        EDGE.outside("lay(0, #, 1) of 9", 0, 8, -12, (x, v) -> x.lay(0, v, 1));
        EDGE.outside("lay(2, #, 1) of 9", 0, 8, -12, (x, v) -> x.lay(2, v, 1));
        EDGE.from(Room::full);
        EDGE.outside("lay(3, #, 1) of 40", 0, 39, -12, (x, v) -> x.lay(3, v, 1));
        EDGE.from(() -> {
            StepsByHand x = Room.some();
            x.sheet(3, 0, 0);
            return x;
        });
        EDGE.outside("lay(3, #, 1) of 0", 0, -1, -12, (x, v) -> x.lay(3, v, 1));
        EDGE.words(38, "-10 less the FAULT: NULL, whatever the CELL");
        EDGE.from(Room::some);
        EDGE.refused("lay(3, 0, 1) of nothing", -11, x -> x.lay(3, 0, 1));
        EDGE.outside("lay(3, #, 1) of nothing", 0, 39, -11, (x, v) -> x.lay(3, v, 1));
        EDGE.words(38, "a FAULT of lay is none of torn()");
        StepsByHand x = new StepsByHand();
        x.lay(0, 0, 0);
        EDGE.due("torn()", x.torn(), 0);
    }

    private static void lowestBits() {
        EDGE.words(38, "v (its lowest bits), all with a sign");
        int[][] laid = {{127, 255 + 128, -129}, {499, 65536 + 499, -65536 + 499}, {499, 499, 499}};
        for (int lane = 0; lane < 3; lane++) {
            for (int v : laid[lane]) {
                StepsByHand x = Checks.told("prop 0;");
                x.sheet(0, lane, 4);
                x.lay(0, 0, v);
                EDGE.due("lane " + lane + ", " + v, frameBehindLay(x, 0, lane, 0), lane == 0 ? 127 : 499);
            }
        }
        int[][] signs = {{128, 255, -1, -128, 256 + 128}, {32768, 65535, -1, 500, 65536 + 500}, {-1, 65536, 500, FAR, FAR_BELOW}};
        for (int lane = 0; lane < 3; lane++) {
            for (int v : signs[lane]) {
                StepsByHand x = Checks.told("prop 0;");
                x.sheet(0, lane, 4);
                x.lay(0, 0, v);
                EDGE.due("lane " + lane + ", " + v + " is no FRAME", frameBehindLay(x, 0, lane, 0), -20);
            }
        }
        int[] far = {FAR, FAR_BELOW, 256, 65536};
        int[][] due = {{-20, 0, 0, 0}, {-20, 0, 256, 0}, {-20, -20, 256, -20}};
        for (int lane = 0; lane < 3; lane++) {
            for (int i = 0; i < 4; i++) {
                StepsByHand x = Checks.told("prop 0;");
                x.sheet(0, lane, 4);
                x.lay(0, 0, far[i]);
                EDGE.due("lane " + lane + ", " + far[i], frameBehindLay(x, 0, lane, 0), due[lane][i]);
            }
        }
    }

    private static StepsByHand sheetOf(int lane, int... cells) {
        StepsByHand x = Checks.told("prop 0;");
        x.sheet(0, lane, cells.length);
        Room.lay(x, 0, 0, cells);
        return x;
    }

    private static void readFirstAndLast() {
        EDGE.words(39, "n (0 to 10) CUES (FRAME, how long, PROP, LOUD; not TALK), four CELLS each from CELL f on: how many came");
        for (int lane = 0; lane < 3; lane++) {
            StepsByHand x = Checks.told("prop 0;prop 0;cue 1 2 0 3 talk;");
            x.sheet(3, lane, 40);
            for (int i = 0; i < 10; i++) Room.lay(x, 3, 4 * i, 10 * i, 60 - i, i % 2, 9 - i % 9);
            EDGE.due("read(3, " + lane + ", 0, 10)", x.read(3, lane, 0, 10), 10);
            EDGE.due("torn()", x.torn(), 0);
            for (int i = 0; i < 10; i++) {
                int[] due = {10 * i, 60 - i, i % 2, 9 - i % 9, 0};
                for (int what = 0; what < 5; what++) EDGE.due("cue(" + (i + 1) + ", " + what + ")", x.cue(i + 1, what), due[what]);
            }
            EDGE.due("the last four CELLS: read(3, " + lane + ", 36, 1)", x.read(3, lane, 36, 1), 1);
            EDGE.due("cue(11, 0)", x.cue(11, 0), 90);
            EDGE.due("the one told stays", x.cue(0, 4), 1);
        }
        StepsByHand talk = Checks.told("prop 0;" + "cue 1 2 0 3 talk;".repeat(16));
        Checks.tell(talk, "prop 0;");
        Checks.tell(talk, "prop 0;");
        talk.sheet(0, 2, 4);
        Room.lay(talk, 0, 0, 5, 1, 0, 1);
        EDGE.due("where TALK was: read", talk.read(0, 2, 0, 1), 1);
        EDGE.due("not TALK", talk.cue(0, 4), 0);
        EDGE.due("from CELL 1 on", sheetOf(1, 9, 0, 1, 0, 1).read(0, 1, 1, 1), 1);
    }

    private static void readNone() {
        EDGE.words(39, "of n 0: 0, no FAULT, whatever the SHEET is");
        int[] from = {0, -1, 8, 9, 40, 41, FAR, FAR_BELOW};
        for (int f : from) {
            for (int k = 0; k < 4; k++) {
                StepsByHand x = Room.some();
                int before = x.count(1);
                EDGE.due("a FAULT ahead", x.torn(), 2);
                EDGE.due("read(" + k + ", 0, " + f + ", 0)", x.read(k, 0, f, 0), 0);
                EDGE.due("torn()", x.torn(), 0);
                EDGE.due("count(1)", x.count(1), before);
            }
        }
        EDGE.due("of 16 CUES", Room.full().read(0, 0, 0, 0), 0);
    }

    private static void finds(String what, StepsByHand x, int lane, int f, int n, int[] cameAndFault) {
        int before = x.count(1);
        String call = what + ": read(0, " + lane + ", " + f + ", " + n + ")";
        EDGE.due(call, x.read(0, lane, f, n), cameAndFault[0]);
        EDGE.due(call + ", torn()", x.torn(), cameAndFault[1]);
        EDGE.due(call + ", count(1)", x.count(1), before + cameAndFault[0]);
    }

    private static int[] due(int came, int fault) {
        return new int[] {came, fault};
    }

    private static void readNull() {
        EDGE.words(39, "What the machine refuses: 1 NULL (nothing)");
        int[] from = {0, -1, 40, FAR, FAR_BELOW};
        for (int f : from) {
            for (int lane = 0; lane < 3; lane++) finds("nothing", Checks.told("prop 0;"), lane, f, 1 + 9 * (lane % 2), due(0, 1));
        }
        EDGE.due("of 16 CUES", readOfNothing(Checks.told("prop 0;" + "cue 1 1 0 1;".repeat(16))), 0);
        EDGE.due("of no PROPS", readOfNothing(new StepsByHand()), 0);
    }

    private static int readOfNothing(StepsByHand x) {
        return x.read(0, 1, 0, 10);
    }

    private static void readCast() {
        EDGE.words(39, "What the machine refuses: 3 CAST (another lane)");
        for (int lane = 0; lane < 3; lane++) {
            for (int as = 0; as < 3; as++) {
                int[] wanted = as == lane ? due(1, 0) : due(0, 3);
                finds("of lane " + lane, sheetOf(lane, 5, 1, 0, 1), as, 0, 1, wanted);
                if (as != lane) finds("of lane " + lane, sheetOf(lane, 5, 1, 0, 1), as, -1, 1, due(0, 3));
                if (as != lane) finds("of lane " + lane, sheetOf(lane, 5, 1, 0, 1), as, FAR, 10, due(0, 3));
                if (as != lane) finds("of lane " + lane + ", not as told", sheetOf(lane, 5, 0, 0, 1), as, 0, 1, due(0, 3));
                if (as != lane) finds("of lane " + lane + ", no CELLS", sheetOf(lane), as, 0, 1, due(0, 3));
            }
        }
    }

    private static void readIndex() {
        EDGE.words(39, "What the machine refuses: 2 INDEX");
        int[] from = {-1, -4, 1, 2, 3, 4, 5, 36, 37, 40, 41, FAR, FAR - 1, FAR - 2, FAR - 3, FAR - 40, FAR_BELOW, FAR_BELOW + 3};
        for (int f : from) {
            finds("of 4 CELLS", sheetOf(2, 5, 1, 0, 1), 2, f, 1, due(0, 2));
            finds("of 4 CELLS", sheetOf(2, 5, 1, 0, 1), 2, f, 10, due(0, 2));
        }
        finds("of 0 CELLS", sheetOf(0), 0, 0, 1, due(0, 2));
        finds("of 3 CELLS", sheetOf(0, 5, 1, 0), 0, 0, 1, due(0, 2));
        finds("of 4 CELLS", sheetOf(0, 5, 1, 0, 1), 0, 0, 1, due(1, 0));
        finds("of 4 CELLS, those whole ahead", sheetOf(0, 5, 1, 0, 1), 0, 0, 2, due(1, 2));
        StepsByHand forty = Checks.told("prop 0;");
        forty.sheet(0, 1, 40);
        for (int i = 0; i < 10; i++) Room.lay(forty, 0, 4 * i, i, 1, 0, 1);
        finds("of 40 CELLS", forty, 1, 37, 1, due(0, 2));
        finds("of 40 CELLS", forty, 1, 36, 2, due(1, 2));
        finds("of 40 CELLS", forty, 1, 4, 10, due(9, 2));
    }

    private static void readTorn() {
        EDGE.words(39, "those that were whole ahead come (its FAULT is asked by torn())");
        int[] cells = {5, 1, 0, 1, 6, 1, 0, 1, 7, 1, 0};
        StepsByHand x = sheetOf(1, cells);
        finds("of 11 CELLS", x, 1, 0, 3, due(2, 2));
        EDGE.due("cue(0, 0)", x.cue(0, 0), 5);
        EDGE.due("cue(1, 0)", x.cue(1, 0), 6);
        finds("of 11 CELLS", sheetOf(1, cells), 1, 0, 2, due(2, 0));
        finds("of 11 CELLS", sheetOf(1, cells), 1, 4, 10, due(1, 2));
        finds("of 11 CELLS", sheetOf(1, cells), 1, 8, 1, due(0, 2));
        // The third cue has only its first cell, which is no frame: it is not whole, so it is not looked at.
        finds("not whole, not as told", sheetOf(1, 5, 1, 0, 1, 6, 1, 0, 1, -1), 1, 0, 3, due(2, 2));
    }

    private static void readBounds() {
        EDGE.words(39, "CUE i, whole, is not as told: the bounds");
        int[][] taken = {{0, 1, 0, 1}, {499, 1, 0, 1}, {440, 60, 0, 1}, {0, 60, 0, 9}};
        for (int[] cells : taken) finds("taken", sheetOf(2, cells), 2, 0, 1, due(1, 0));
        int[][] wrong = {{-1, 1, 0, 1}, {500, 1, 0, 1}, {FAR, 1, 0, 1}, {FAR_BELOW, 1, 0, 1}, {0, 0, 0, 1}, {0, 61, 0, 1}, {0, -1, 0, 1},
            {0, FAR, 0, 1}, {0, FAR_BELOW, 0, 1}, {499, 2, 0, 1}, {441, 60, 0, 1}, {FAR, FAR, 0, 1}, {FAR - 10, 60, 0, 1}, {0, 1, 1, 1},
            {0, 1, -1, 1}, {0, 1, 8, 1}, {0, 1, FAR, 1}, {0, 1, FAR_BELOW, 1}, {0, 1, 0, 0}, {0, 1, 0, 10}, {0, 1, 0, -1}, {0, 1, 0, FAR},
            {0, 1, 0, FAR_BELOW}};
        for (int[] cells : wrong) {
            EDGE.from(() -> sheetOf(2, cells));
            EDGE.refused("a CUE of " + java.util.Arrays.toString(cells), -20, x -> x.read(0, 2, 0, 1));
        }
        StepsByHand eight = Checks.told("prop 0;".repeat(8));
        eight.sheet(0, 0, 8);
        Room.lay(eight, 0, 0, 0, 1, 7, 1, 0, 1, 8, 1);
        EDGE.due("PROP 7 of 8", eight.read(0, 0, 0, 1), 1);
        EDGE.due("PROP 8 of 8", eight.read(0, 0, 4, 1), -20);
        StepsByHand none = new StepsByHand();
        none.sheet(0, 0, 4);
        Room.lay(none, 0, 0, 0, 1, 0, 1);
        EDGE.due("PROP 0 of none", none.read(0, 0, 0, 1), -20);
    }

    private static void readNotAsTold() {
        EDGE.words(39, "-20 less i (from 0 on): then none came; the first met");
        for (int i = 0; i < 10; i++) {
            int wrong = i;
            EDGE.from(() -> {
                StepsByHand x = Room.some();
                x.sheet(3, 1, 40);
                for (int c = 0; c < 10; c++) Room.lay(x, 3, 4 * c, c, 1, 0, c == wrong ? 0 : 1);
                return x;
            });
            EDGE.refused("CUE " + i + " of 10", -20 - i, x -> x.read(3, 1, 0, 10));
            EDGE.refused("CUE " + i + " of " + (i + 1), -20 - i, x -> x.read(3, 1, 0, wrong + 1));
            EDGE.refused("alone", -20, x -> x.read(3, 1, 4 * wrong, 1));
        }
        EDGE.from(() -> sheetOf(1, 5, 1, 0, 1, 6, 0, 0, 1, 7, 0, 0, 1, 8));
        EDGE.refused("the first of two", -21, x -> x.read(0, 1, 0, 3));
        EDGE.refused("ahead of what the machine refuses", -21, x -> x.read(0, 1, 0, 4));
        finds("behind the last that is asked for", sheetOf(1, 5, 1, 0, 1, 6, 0, 0, 1), 1, 0, 1, due(1, 0));
    }

    private static StepsByHand nearlyFull(int cues, int... cells) {
        StepsByHand x = Checks.told("prop 0;" + "cue 1 1 0 1;".repeat(cues));
        x.sheet(0, 1, cells.length);
        Room.lay(x, 0, 0, cells);
        return x;
    }

    private static void readTheSeventeenth() {
        EDGE.words(39, "FULL: it would be the 17th: likewise; the first met");
        int[] three = {5, 1, 0, 1, 6, 1, 0, 1, 7, 1, 0, 1};
        EDGE.from(() -> nearlyFull(14, three));
        EDGE.refused("3 behind 14: none came", FULL, x -> x.read(0, 1, 0, 3));
        EDGE.refused("4 behind 14, ahead of what the machine refuses", FULL, x -> x.read(0, 1, 0, 4));
        EDGE.due("2 behind 14", nearlyFull(14, three).read(0, 1, 0, 2), 2);
        EDGE.from(() -> nearlyFull(16, three));
        EDGE.refused("1 behind 16", FULL, x -> x.read(0, 1, 0, 1));
        EDGE.refused("10 behind 16", FULL, x -> x.read(0, 1, 0, 10));
        EDGE.due("1 behind 15", nearlyFull(15, three).read(0, 1, 0, 1), 1);
        finds("none whole behind 16", nearlyFull(16, 5, 1, 0), 1, 0, 1, due(0, 2));
        finds("the 17th is not whole", nearlyFull(14, 5, 1, 0, 1, 6, 1, 0, 1, 7, 1, 0), 1, 0, 3, due(2, 2));
        finds("of another lane behind 16", nearlyFull(16, three), 2, 0, 1, due(0, 3));
        EDGE.from(() -> nearlyFull(15, 5, 1, 0, 1, 6, 1, 0, 1, 7, 1, 0, 0));
        EDGE.refused("the 17th ahead of one that is not as told", FULL, x -> x.read(0, 1, 0, 3));
        EDGE.from(() -> nearlyFull(15, 5, 1, 0, 0, 6, 1, 0, 1));
        EDGE.refused("one that is not as told ahead of the 17th", -20, x -> x.read(0, 1, 0, 2));
        EDGE.words(39, "the first that fits: not as told ahead of FULL");
        EDGE.from(() -> nearlyFull(15, 5, 1, 0, 1, 6, 1, 0, 0));
        EDGE.refused("the 17th that is not as told", -21, x -> x.read(0, 1, 0, 2));
    }

    private static void readRefused() {
        EDGE.words(39, "BAD: k, lane, n");
        EDGE.from(Room::some);
        EDGE.outside("read(#, 0, 0, 1)", 0, 3, BAD, (x, v) -> x.read(v, 0, 0, 1));
        EDGE.outside("read(1, #, 0, 1)", 0, 2, BAD, (x, v) -> x.read(1, v, 0, 1));
        EDGE.outside("read(1, 1, 0, #)", 0, 10, BAD, (x, v) -> x.read(1, 1, 0, v));
        EDGE.words(39, "BAD: k, lane: of n 0, too");
        EDGE.outside("read(#, 0, 0, 0)", 0, 3, BAD, (x, v) -> x.read(v, 0, 0, 0));
        EDGE.outside("read(1, #, 0, 0)", 0, 2, BAD, (x, v) -> x.read(1, v, 0, 0));
        EDGE.outside("read(3, 0, 0, #) of nothing", 0, 10, BAD, (x, v) -> x.read(3, 0, 0, v));
    }

    private static void tornOfTheLatest() {
        EDGE.words(40, "The FAULT of the latest read() that answered 0 or more; 0");
        StepsByHand x = Checks.told("prop 0;");
        EDGE.due("ahead of any", x.torn(), 0);
        x.sheet(0, 1, 4);
        Room.lay(x, 0, 0, 5, 1, 0, 1);
        int[][] reads = {{1, 1, 0, 1, 0, 1}, {0, 1, 0, 1, 1, 0}, {0, 1, 0, 2, 1, 2}, {0, 2, 0, 1, 0, 3}, {0, 1, 1, 1, 0, 2}, {1, 0, 9, 0, 0, 0}};
        for (int[] r : reads) {
            EDGE.due("read(" + r[0] + ", " + r[1] + ", " + r[2] + ", " + r[3] + ")", x.read(r[0], r[1], r[2], r[3]), r[4]);
            EDGE.due("torn()", x.torn(), r[5]);
            EDGE.due("torn() asked again", x.torn(), r[5]);
        }
        EDGE.words(40, "one that is refused leaves it");
        for (int fault = 0; fault <= 3; fault++) {
            StepsByHand y = nearlyFull(15, 5, 1, 0, 0, 6, 1, 0, 1, 7, 1, 0, 1);
            int[][] makes = {{0, 1, 0, 0}, {1, 1, 0, 1}, {0, 1, 12, 1}, {0, 2, 0, 1}};
            y.read(makes[fault][0], makes[fault][1], makes[fault][2], makes[fault][3]);
            EDGE.due("torn()", y.torn(), fault);
            EDGE.due("BAD", y.read(4, 1, 0, 1), BAD);
            EDGE.due("torn() behind BAD", y.torn(), fault);
            EDGE.due("-20", y.read(0, 1, 0, 1), -20);
            EDGE.due("torn() behind -20", y.torn(), fault);
            EDGE.due("FULL", y.read(0, 1, 4, 2), FULL);
            EDGE.due("torn() behind FULL", y.torn(), fault);
            y.text();
            y.sheet(0, 0, -1);
            y.lay(3, 0, 0);
            EDGE.due("torn() behind a text, SIZE, NULL of others", y.torn(), fault);
        }
    }

    private static void countsAtTheEdges() {
        EDGE.words(41, "How many: 0 PROPS .. 9 CELLS of SHEET 0 (NONE: nothing)");
        int[] full = {8, 16, 8, 12, 12, 8, 12, 12, 400, 40};
        int[] some = {3, 6, 1, 3, 3, 2, 2, 2, 8, 9};
        for (int what = 0; what < 10; what++) {
            EDGE.due("of none: count(" + what + ")", new StepsByHand().count(what), what == 9 ? NONE : 0);
            EDGE.due("of some: count(" + what + ")", Room.some().count(what), some[what]);
            EDGE.due("of all: count(" + what + ")", Room.full().count(what), full[what]);
        }
        StepsByHand x = new StepsByHand();
        for (int k = 1; k < 4; k++) x.sheet(k, 0, 5);
        EDGE.due("SHEETS 1 to 3 are none of it", x.count(9), NONE);
        x.sheet(0, 0, 0);
        EDGE.due("no CELLS are not nothing", x.count(9), 0);
        x.sheet(0, 2, 1);
        EDGE.due("one CELL", x.count(9), 1);
        int[] unlike = {1, 2, 3, 4, 5, 6, 7, 8, 9, 10};
        StepsByHand y = Checks.told("prop 0;cue 0 1 0 1;cue 0 1 0 1;speech 0 1 1;speech 0 1 1;speech 0 1 1;");
        for (int i = 0; i < 4; i++) y.hit(0, i);
        for (int i = 0; i < 5; i++) y.hit(1, i);
        for (int i = 0; i < 6; i++) y.piece(i, 1);
        for (int i = 0; i < 7; i++) y.entry(0, i, 0);
        for (int i = 0; i < 8; i++) y.entry(1, i, 0);
        y.feed(0);
        y.feed(0);
        y.end(9);
        y.sheet(0, 0, 10);
        for (int what = 0; what < 10; what++) EDGE.due("each its own: count(" + what + ")", y.count(what), unlike[what]);
    }

    private static void countRefused() {
        EDGE.words(41, "BAD");
        EDGE.from(Room::some);
        EDGE.outside("count(#)", 0, 9, BAD, (x, v) -> x.count(v));
        EDGE.from(StepsByHand::new);
        EDGE.outside("count(#) of none", 0, 9, BAD, (x, v) -> x.count(v));
    }
}
