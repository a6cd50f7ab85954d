/** Boundary cases of promises 37 to 41: sheet, lay, read, torn, count. */
final class SheetsBounds extends Bounds {
    private static final String[] NUMBERS = {"0", "1", "2", "3"};

    static void all() {
        kinds();
        sheets();
        lays();
        lowestBits();
        machine();
        reading();
        wholeAhead();
        noneRead();
        readRefused();
        badLengths();
        torn();
        counts();
    }

    /** SHEET k as a row of a lane with these CELLS. */
    private static Run fill(Run x, int k, int lane, int... cells) {
        x.call("sheet " + k + " " + lane + " " + cells.length);
        for (int i = 0; i < cells.length; i++) {
            x.call("lay " + k + " " + i + " " + cells[i]);
        }
        return x;
    }

    private static void kinds() {
        terms("SHEETS 0 to 3 are rows of BYTES (lane 0), SHORTS (1), INTS (2), all with a sign, with 0 to 40 CELLS, or nothing (at"
                + " first)");
        Run x = fresh();
        for (String k : NUMBERS) {
            x.due("lay " + k + " 0 1", -11).due("sheet " + k + " 0 0", 1).due("lay " + k + " 0 1", -12);
            x.due("sheet " + k + " 1 40", 1).due("lay " + k + " 39 1", 1).due("lay " + k + " 40 1", -12);
            x.due("sheet " + k + " 2 1", 1).due("lay " + k + " 0 1", 1).due("lay " + k + " 1 1", -12);
        }
        x.due("sheet 4 0 0", BAD).due("sheet -1 0 0", BAD).due("sheet 0 3 0", BAD).due("sheet 0 -1 0", BAD);
        fill(fresh(), 0, 0, 0, 1, 127).due("read 0 0 0 1", 1).due("far 0 1", 127);
        fill(fresh(), 0, 0, 0, 1, 128).due("read 0 0 0 1", -20);
        fill(fresh(), 0, 0, 0, 255, 5).due("read 0 0 0 1", -20);
        fill(fresh(), 0, 1, 0, 1, 9999).due("read 0 1 0 1", 1).due("far 0 1", 9999);
        fill(fresh(), 0, 1, 0, 1, 40000).due("read 0 1 0 1", -20);
        fill(fresh(), 0, 1, 0, 65535, 5).due("read 0 1 0 1", -20);
        fill(fresh(), 0, 2, 0, 1, 9999).due("read 0 2 0 1", 1).due("far 0 1", 9999);
        fill(fresh(), 0, 2, 0, 1, 65536 + 5).due("read 0 2 0 1", -20);
    }

    private static void sheets() {
        says(37, "A SHEET is a new row of CELLS 0: 1");
        Run x = fresh().due("sheet 0 0 0", 1).due("count 5", 0).due("sheet 0 1 1", 1).due("count 5", 1).due("sheet 0 2 40", 1);
        x.due("count 5", 40);
        // Were the CELLS of the row before still there, a LENGTH would come.
        fill(x, 1, 2, 0, 1, 5).due("read 1 2 0 1", 1).due("sheet 1 2 3", 1).due("read 1 2 0 1", -20);
        fill(x, 1, 2, 0, 0, 0, 0, 1, 5).due("sheet 1 2 3", 1).due("sheet 1 2 6", 1).due("read 1 2 3 1", -20);
        x.due("lay 1 1 1", 1).due("lay 1 2 6", 1).due("read 1 2 0 1", 1).due("far 0 1", 6);
        // One SHEET is not another one.
        fill(x, 3, 0, 0, 2, 7).due("sheet 2 0 3", 1).due("read 3 0 0 1", 1).due("far 0 2", 7).due("read 2 0 0 1", -20);
        says(37, "BAD: also n above 40");
        Run y = fresh().due("sheet 0 0 41", BAD).due("sheet 0 0 MAX", BAD).due("sheet 4 0 5", BAD).due("sheet -1 0 5", BAD);
        y.due("sheet MIN 0 5", BAD).due("sheet MAX 0 5", BAD).due("sheet 0 3 5", BAD).due("sheet 0 -1 5", BAD);
        y.due("sheet 0 MIN 5", BAD).due("sheet 0 MAX 5", BAD).due("count 5", NONE).due("sheet 0 0 40", 1).due("sheet 0 2 41", BAD);
        y.due("count 5", 40).due("sheet 3 2 0", 1);
        says(37, "-14 (SIZE): n below 0");
        Run z = fresh().due("sheet 0 0 -1", -14).due("sheet 3 2 -1", -14).due("sheet 0 0 MIN", -14).due("count 5", NONE);
        z.due("sheet 0 0 0", 1).due("sheet 4 0 -1", BAD).due("sheet -1 0 -1", BAD).due("sheet 0 3 -1", BAD);
        z.due("sheet 0 -1 -1", BAD);
        fill(z, 0, 0, 0, 1, 5).due("sheet 0 1 -1", -14).due("count 5", 3).due("read 0 0 0 1", 1).due("torn", 0);
    }

    private static void lays() {
        says(38, "CELL i of a SHEET becomes v");
        Run x = fresh().call("sheet 3 2 40").due("lay 3 0 0", 1).due("lay 3 1 1", 1).due("lay 3 2 5", 1).due("lay 3 37 1", 1);
        x.due("lay 3 38 2", 1).due("lay 3 39 9999", 1).due("read 3 2 0 1", 1).due("far 0 1", 5).due("read 3 2 37 1", 1);
        x.due("far 1 2", 9999).due("lay 3 2 6", 1).due("read 3 2 0 1", 1).due("far 0 1", 6);
        says(38, "BAD: k");
        x.due("lay 4 0 1", BAD).due("lay -1 0 1", BAD).due("lay MIN 0 1", BAD).due("lay MAX 0 1", BAD).due("lay 4 -1 1", BAD);
        x.due("lay 3 0 1", 1).due("lay 0 0 1", -11);
        says(38, "-10 less the FAULT: NULL, INDEX");
        Run y = fresh().due("lay 0 0 1", -11).due("lay 0 -1 1", -11).due("lay 0 40 1", -11).due("lay 0 MIN 1", -11);
        y.call("sheet 0 0 0").due("lay 0 0 1", -12).due("lay 0 -1 1", -12).call("sheet 0 0 1").due("lay 0 0 1", 1);
        y.due("lay 0 1 1", -12).due("lay 0 -1 1", -12).due("lay 0 MIN 1", -12).due("lay 0 MAX 1", -12);
        y.call("sheet 0 1 40").due("lay 0 39 1", 1).due("lay 0 40 1", -12).due("lay 1 0 1", -11);
    }

    /** The CELL of a square in each lane, by what is laid: the square that is read, or BAD. */
    private static void lowestBits() {
        says(38, "(its lowest bits): 1");
        int[][] bytes = {{1, 1}, {127, 127}, {128, BAD}, {255, BAD}, {256, BAD}, {257, 1}, {256 + 127, 127}, {256 + 128, BAD},
            {-1, BAD}, {-128, BAD}, {-129, 127}, {-255, 1}, {-256, BAD}, {Integer.MAX_VALUE, BAD}, {Integer.MIN_VALUE, BAD},
            {Integer.MIN_VALUE + 9, 9}};
        int[][] shorts = {{1, 1}, {256, 256}, {9999, 9999}, {10000, BAD}, {32767, BAD}, {32768, BAD}, {65535, BAD}, {65536, BAD},
            {65537, 1}, {65536 + 9999, 9999}, {-1, BAD}, {-65535, 1}, {-65536 + 9999, 9999}, {-55536, BAD},
            {Integer.MAX_VALUE, BAD}, {Integer.MIN_VALUE + 9999, 9999}};
        int[][] ints = {{1, 1}, {9999, 9999}, {10000, BAD}, {65537, BAD}, {-1, BAD}, {Integer.MAX_VALUE, BAD},
            {Integer.MIN_VALUE, BAD}, {Integer.MIN_VALUE + 9999, BAD}};
        int[][][] lanes = {bytes, shorts, ints};
        for (int lane = 0; lane < 3; lane++) {
            Run x = fill(fresh(), 1, lane, 0, 1, 0);
            for (int[] laid : lanes[lane]) {
                x.due("lay 1 2 " + laid[0], 1).due("read 1 " + lane + " 0 1", laid[1] == BAD ? -20 : 1);
                if (laid[1] != BAD) {
                    x.due("far 0 1", laid[1]);
                }
            }
        }
        fill(fresh(), 0, 0, 256, -255, 5).due("read 0 0 0 1", 1).due("far 0 1", 5);
        fill(fresh(), 0, 1, 65536, -65535, 5).due("read 0 1 0 1", 1).due("far 0 1", 5);
        fill(fresh(), 0, 2, 65536, 1, 5).due("read 0 2 0 1", -20);
    }

    private static void machine() {
        terms("A FAULT is what the machine finds: 1 NULL (nothing), 2 INDEX, 3 CAST (another lane), 4 SIZE (below 0)");
        for (int lane = 0; lane < 3; lane++) {
            fresh().due("read 2 " + lane + " 0 1", 0).due("torn", 1).due("read 2 " + lane + " -1 13", 0).due("torn", 1);
            for (int other = 0; other < 3; other++) {
                Run x = fill(fresh(), 2, lane, 0, 1, 5).due("read 2 " + other + " 0 1", lane == other ? 1 : 0);
                x.due("torn", lane == other ? 0 : 3).due("far 0 1", lane == other ? 5 : NONE);
                x.due("read 2 " + other + " 3 1", 0).due("torn", lane == other ? 2 : 3);
                x.due("read 2 " + other + " -1 1", 0).due("torn", lane == other ? 2 : 3);
                x.call("sheet 2 " + lane + " 0").due("read 2 " + other + " 0 1", 0).due("torn", lane == other ? 2 : 3);
            }
            fresh().due("sheet 2 " + lane + " -1", -14).due("torn", 0).due("lay 2 0 1", -11);
        }
    }

    private static void reading() {
        says(39, "n (0 to 13) LENGTHS (two PLACES, a square) are read of a SHEET taken as of a lane, three CELLS each from CELL f on,"
                + " one behind another as by tell(): how many came");
        int[] cells = new int[40];
        for (int i = 0; i < 13; i++) {
            cells[3 * i + 1] = i % 2 == 0 ? 1 : 0;
            cells[3 * i] = 1 - cells[3 * i + 1];
            cells[3 * i + 2] = 100 + i;
        }
        Run x = fill(fresh(), 3, 1, cells).due("read 3 1 0 13", 13).due("torn", 0).due("far 0 1", 112).due("count 1", 1);
        x.due("read 3 1 0 1", 1).due("far 0 1", 100).due("read 3 1 36 1", 1).due("far 0 1", 112);
        x.due("read 3 1 33 2", 2).due("far 1 0", 112).due("read 3 1 0 2", 2).due("far 0 1", 101);
        // From CELL 1 on: what was a square is now a PLACE.
        x.due("read 3 1 1 1", -20).due("read 3 1 2 1", -20).due("far 0 1", 101);
        // Neither what stands ahead of CELL f comes nor what stands behind the n-th one.
        for (int f = 0; f <= 6; f += 3) {
            Run z = fill(fresh(), 0, 0, 0, 1, 5, 0, 2, 6, 1, 2, 7).due("read 0 0 " + f + " 1", 1).due("count 1", 1);
            z.due("far 0 1", f == 0 ? 5 : NONE).due("far 0 2", f == 3 ? 6 : NONE).due("far 1 2", f == 6 ? 7 : NONE);
        }
        Run y = of("places 7;far 5 6 7;");
        fill(y, 0, 0, 9, 5, 6, 1, 6, 5, 127).due("read 0 0 1 1", 1).due("far 5 6", 1).due("read 0 0 1 2", 2).due("far 5 6", 127);
        y.due("count 1", 1);
    }

    private static void wholeAhead() {
        says(39, "What the machine refuses: those that were whole ahead come (its FAULT is asked by torn();");
        for (int size = 0; size <= 7; size++) {
            int[] cells = java.util.Arrays.copyOf(new int[] {0, 1, 5, 0, 2, 6, 9}, size);
            for (int n = 1; n <= 3; n++) {
                int whole = Math.min(n, size / 3);
                Run x = fill(fresh(), 0, 2, cells).due("read 0 2 0 " + n, whole).due("torn", whole < n ? 2 : 0);
                x.due("far 0 1", whole > 0 ? 5 : NONE).due("far 0 2", whole > 1 ? 6 : NONE).due("count 1", whole);
            }
        }
        int[] most = new int[40];
        for (int i = 0; i < 40; i++) {
            most[i] = i % 3;
        }
        Run y = fill(fresh(), 1, 0, most).due("read 1 0 0 13", 13).due("torn", 0);
        y.due("read 1 0 3 13", 12).due("torn", 2).due("read 1 0 36 1", 1).due("torn", 0).due("read 1 0 36 2", 1).due("torn", 2);
        y.due("read 1 0 39 1", 0).due("torn", 2).due("read 1 0 37 1", -20).due("read 1 0 38 1", 0).due("torn", 2);
        int[] off = {-1, -2, -3, 40, 41, Integer.MIN_VALUE, Integer.MIN_VALUE + 1, Integer.MAX_VALUE, Integer.MAX_VALUE - 1,
            Integer.MAX_VALUE - 38};
        for (int f : off) {
            y.call("read 0 0 0 0").due("read 1 0 " + f + " 1", 0).due("torn", 2);
            y.call("read 0 0 0 0").due("read 1 0 " + f + " 13", 0).due("torn", 2);
        }
    }

    private static void noneRead() {
        says(39, "of n 0: 0, no FAULT, whatever the SHEET is)");
        Run x = fresh().due("read 0 0 0 1", 0).due("torn", 1).due("read 0 0 0 0", 0).due("torn", 0);
        x.call("read 0 0 0 1").due("read 0 2 -1 0", 0).due("torn", 0);
        x.call("sheet 1 1 0").call("read 0 0 0 1").due("read 1 1 0 0", 0).due("torn", 0);
        x.call("read 0 0 0 1").due("read 1 1 5 0", 0).due("torn", 0).call("read 0 0 0 1").due("read 1 1 MAX 0", 0).due("torn", 0);
        x.call("read 0 0 0 1").due("read 1 2 0 0", 0).due("torn", 0).call("read 0 0 0 1").due("read 1 0 MIN 0", 0).due("torn", 0);
        x.due("count 1", 0);
    }

    private static void readRefused() {
        says(39, "BAD: k, lane, n;");
        Run x = fill(fresh(), 0, 0, 0, 1, 5);
        String[] bad = {"-1 0 0 1", "4 0 0 1", "MIN 0 0 1", "MAX 0 0 1", "0 -1 0 1", "0 3 0 1", "0 MIN 0 1", "0 MAX 0 1",
            "0 0 0 -1", "0 0 0 14", "0 0 0 MIN", "0 0 0 MAX", "4 0 0 0", "0 3 0 0", "-1 0 -1 0"};
        for (String four : bad) {
            x.due("read " + four, BAD).due("count 1", 0);
        }
        x.due("read 0 0 0 13", 1).due("torn", 2).due("read 3 2 0 13", 0).due("torn", 1).due("read 0 0 0 0", 0);
    }

    private static void badLengths() {
        says(39, "-20 less i (0 on): LENGTH i, whole, is BAD (also none): then none came");
        int[][] bad = {{0, 0, 5}, {0, 3, 5}, {3, 0, 5}, {-1, 0, 5}, {0, -1, 5}, {0, 1, 0}, {0, 1, 10000}, {0, 1, -1}, {0, 1, -4}};
        for (int[] t : bad) {
            fill(fresh(), 0, 2, t).due("read 0 2 0 1", -20).due("count 1", 0);
            Run x = fill(of("far 0 1 3;far 1 2 4;"), 0, 2, 0, 1, 7, 1, 2, 8, t[0], t[1], t[2], 0, 2, 9);
            x.due("read 0 2 0 4", -22).due("read 0 2 0 3", -22).due("read 0 2 3 2", -21).due("read 0 2 6 2", -20);
            x.due("far 0 1", 3).due("far 1 2", 4).due("far 0 2", NONE).due("read 0 2 0 2", 2).due("far 1 2", 8);
            // The third one is not whole when the row ends within it; that it would be BAD does not matter then.
            fill(fresh(), 0, 2, 0, 1, 7, 1, 2, 8, t[0], t[1]).due("read 0 2 0 3", 2).due("torn", 2).due("count 1", 2);
            // BAD ahead of what the machine refuses.
            fill(fresh(), 0, 2, t[0], t[1], t[2], 0).due("read 0 2 0 2", -20).due("torn", 0);
        }
        int[] last = new int[39];
        for (int i = 0; i < 38; i++) {
            last[i] = i % 3;
        }
        fill(fresh(), 2, 0, last).due("read 2 0 0 13", -32).due("count 1", 0).due("read 2 0 0 12", 12).due("far 0 1", 2);
        last[38] = 2;
        for (int i = 0; i < 13; i++) {
            fill(fresh(), 2, 0, last).call("lay 2 " + (3 * i + 2) + " 0").due("read 2 0 0 13", -20 - i).due("count 1", 0);
        }
        fill(of("places 7;"), 0, 0, 6, 0, 5).due("read 0 0 0 1", 1).due("far 0 6", 5);
        fill(of("places 6;"), 0, 0, 6, 0, 5).due("read 0 0 0 1", -20);
        fill(of("places 2;"), 0, 0, 0, 1, 5, 0, 2, 5).due("read 0 0 0 2", -21).due("read 0 0 0 1", 1);
    }

    private static void torn() {
        says(40, "The FAULT of the latest read() that answered 0 or more; 0");
        Run x = fill(fresh().due("torn", 0), 0, 0, 0, 1, 5, 0, 0);
        x.due("read 1 0 0 1", 0).due("torn", 1).due("torn", 1).due("read 0 1 0 1", 0).due("torn", 3).due("read 0 0 0 2", 1);
        x.due("torn", 2).due("read 0 0 0 1", 1).due("torn", 0).due("read 0 1 0 1", 0).due("torn", 3).due("read 0 1 0 0", 0);
        x.due("torn", 0);
        x.call("read 1 0 0 1").due("sheet 2 0 3", 1).due("torn", 1).due("lay 2 0 1", 1).due("torn", 1).call("tell 0 1 5");
        x.due("torn", 1);
        says(40, "(one that is refused leaves it)");
        x.call("read 1 0 0 1").due("read 4 0 0 1", BAD).due("torn", 1).due("read 0 3 0 1", BAD).due("torn", 1);
        x.due("read 0 0 0 14", BAD).due("torn", 1).due("read 0 0 0 -1", BAD).due("torn", 1).due("read 0 0 2 1", -20).due("torn", 1);
        x.due("sheet 0 0 -1", -14).due("torn", 1).due("lay 3 0 1", -11).due("torn", 1).due("lay 0 9 1", -12).due("torn", 1);
        x.due("read 0 0 0 1", 1).due("torn", 0).due("read 0 0 2 1", -20).due("torn", 0);
        x.call("read 0 0 0 2").due("read 0 0 2 1", -20).due("torn", 2).call("keep 0").call("back 0").due("torn", 2);
        x.call("land").due("torn", 2);
    }

    private static void counts() {
        says(41, "How many: 0 PLACES, 1 LENGTHS told, 2 parts of the ROAD, 3 IMAGES, 4 bytes on THE TAPE, 5 CELLS of SHEET 0 (NONE:"
                + " nothing)");
        Run x = fresh().due("count 0", 3).due("count 1", 0).due("count 2", 0).due("count 3", 0).due("count 4", 0);
        x.due("count 5", NONE).call("sheet 1 0 5").due("count 5", NONE).call("sheet 0 0 0").due("count 5", 0);
        x.call("sheet 0 2 40").due("count 5", 40).call("sheet 0 2 -1").due("count 5", 40).call("sheet 0 0 1").due("count 5", 1);
        of("places 2;").due("count 0", 2).due("count 1", 0).call("tell 0 1 1").due("count 1", 1).call("tell 0 1 2")
                .due("count 1", 1).call("tell 0 1 NONE").due("count 1", 0);
        Run y = alike(7, 1).due("count 0", 7).due("count 1", 21).due("count 3", 0).call("keep 1").due("count 3", 1);
        y.call("keep 1").due("count 3", 1).call("keep 0").due("count 3", 2).call("back 0").due("count 3", 2);
        for (int i = 1; i <= 8; i++) {
            y.call("part 1").due("count 2", i);
        }
        y.call("part 1").due("count 2", 8).feed(" ".repeat(320)).due("count 4", 320).call("feed 0").due("count 4", 320);
        y.call("end 1").due("count 4", 1).call("land").due("count 4", 0).due("count 2", 0).due("count 3", 0);
        says(41, "BAD");
        fresh().due("count -1", BAD).due("count 6", BAD).due("count MIN", BAD).due("count MAX", BAD).due("count 5", NONE);
    }
}
