/** Promises 37 to 40: sheet, lay, read, torn. */
public final class SheetsTest {
    public static void main(String[] args) {
        sheets();
        cells();
        reading();
        machineFaults();
        badLengths();
        whatIsLeft();
        Check.finish();
    }

    private static void sheets() {
        OnlyFar x = new OnlyFar();
        Check.due("sheet", x.sheet(0, 0, 0), 1);
        Check.due("sheet", x.sheet(3, 2, 40), 1);
        int[][] bad = {{4, 0, 3}, {-1, 0, 3}, {0, 3, 3}, {0, -1, 3}, {0, 0, 41}, {4, 0, -1}, {0, 3, -1},
            {0, 0, Integer.MAX_VALUE}};
        for (int[] s : bad) {
            Check.due("sheet", x.sheet(s[0], s[1], s[2]), OnlyFar.BAD);
        }
        Check.due("sheet below 0", x.sheet(0, 0, -1), -14);
        Check.due("sheet below 0", x.sheet(0, 0, Integer.MIN_VALUE), -14);
        Check.due("count(5)", x.count(5), 0);
        x.sheet(0, 1, 5);
        Check.due("count(5)", x.count(5), 5);
    }

    private static void cells() {
        OnlyFar x = new OnlyFar();
        Check.due("lay on nothing", x.lay(1, 0, 1), -11);
        Check.due("lay on nothing", x.lay(1, -1, 1), -11);
        Check.due("lay", x.lay(4, 0, 1), OnlyFar.BAD);
        Check.due("lay", x.lay(-1, 0, 1), OnlyFar.BAD);
        x.sheet(1, 0, 3);
        Check.due("lay", x.lay(1, 2, 1), 1);
        Check.due("lay behind", x.lay(1, 3, 1), -12);
        Check.due("lay ahead", x.lay(1, -1, 1), -12);
        Check.due("lay far off", x.lay(1, Integer.MIN_VALUE, 1), -12);
        x.sheet(1, 0, 0);
        Check.due("lay on an empty one", x.lay(1, 0, 1), -12);
    }

    private static void fill(OnlyFar x, int k, int lane, int... cells) {
        x.sheet(k, lane, cells.length);
        for (int i = 0; i < cells.length; i++) {
            x.lay(k, i, cells[i]);
        }
    }

    private static void reading() {
        OnlyFar x = Check.of("places 7;");
        fill(x, 2, 2, 0, 1, 9999, 5, 6, 1, 1, 0, 77);
        Check.due("read", x.read(2, 2, 0, 3), 3);
        Check.due("torn", x.torn(), 0);
        Check.due("the later one stays", x.far(0, 1), 77);
        Check.due("far(6, 5)", x.far(6, 5), 1);
        Check.due("read from a cell on", x.read(2, 2, 3, 1), 1);
        fill(x, 0, 0, 2, 3, 127, 2, 4, 128);
        Check.due("a byte has a sign", x.read(0, 0, 0, 2), -21);
        Check.due("then none came", x.far(2, 3), OnlyFar.NONE);
        Check.due("read", x.read(0, 0, 0, 1), 1);
        Check.due("far(2, 3)", x.far(2, 3), 127);
        fill(x, 0, 0, 256, 257, 256 + 5);
        Check.due("lowest bits of a byte", x.read(0, 0, 0, 1), 1);
        Check.due("far(0, 1)", x.far(0, 1), 5);
        fill(x, 0, 1, 65536, -65535, 65536 + 6);
        Check.due("lowest bits of a short", x.read(0, 1, 0, 1), 1);
        Check.due("far(0, 1)", x.far(0, 1), 6);
        fill(x, 0, 1, 0, 1, 32768 + 5);
        Check.due("a short has a sign", x.read(0, 1, 0, 1), -20);
        fill(x, 0, 2, 0, 1, 65536);
        Check.due("an int is whole", x.read(0, 2, 0, 1), -20);
        int[] most = new int[40];
        for (int i = 0; i < 13; i++) {
            most[1 + 3 * i] = 0;
            most[2 + 3 * i] = 1 + i % 6;
            most[3 + 3 * i] = 100 + i;
        }
        fill(x, 3, 1, most);
        Check.due("read 13", x.read(3, 1, 1, 13), 13);
        Check.due("far(0, 1)", x.far(0, 1), 112);
        Check.due("far(0, 6)", x.far(0, 6), 111);
    }

    private static void machineFaults() {
        OnlyFar x = new OnlyFar();
        Check.due("read of nothing", x.read(0, 0, 0, 1), 0);
        Check.due("torn", x.torn(), 1);
        Check.due("read of none of nothing", x.read(0, 0, 0, 0), 0);
        Check.due("torn", x.torn(), 0);
        fill(x, 0, 1, 0, 1, 5, 0, 2, 6, 1, 2);
        Check.due("read as another lane", x.read(0, 2, 0, 2), 0);
        Check.due("torn", x.torn(), 3);
        Check.due("far(0, 1)", x.far(0, 1), OnlyFar.NONE);
        Check.due("read as another lane, off the row", x.read(0, 0, -7, 2), 0);
        Check.due("torn", x.torn(), 3);
        Check.due("none as another lane", x.read(0, 0, -7, 0), 0);
        Check.due("torn", x.torn(), 0);
        Check.due("read beyond the end", x.read(0, 1, 0, 3), 2);
        Check.due("torn", x.torn(), 2);
        Check.due("far(0, 1)", x.far(0, 1), 5);
        Check.due("far(0, 2)", x.far(0, 2), 6);
        Check.due("far(1, 2)", x.far(1, 2), OnlyFar.NONE);
        int[] off = {-1, -3, 6, 7, 8, 9, 40, Integer.MAX_VALUE, Integer.MAX_VALUE - 2, Integer.MIN_VALUE};
        for (int f : off) {
            x.read(0, 1, 0, 0);
            Check.due("read from " + f, x.read(0, 1, f, 1), 0);
            Check.due("torn", x.torn(), 2);
        }
        Check.due("read from 3", x.read(0, 1, 3, 13), 1);
        Check.due("torn", x.torn(), 2);
        x.sheet(1, 0, 0);
        Check.due("read of an empty one", x.read(1, 0, 0, 1), 0);
        Check.due("torn", x.torn(), 2);
    }

    private static void badLengths() {
        OnlyFar x = Check.of("places 4;far 0 1 3;");
        int[][] bad = {{0, 0, 5}, {0, 4, 5}, {4, 0, 5}, {-1, 0, 5}, {0, 1, 0}, {0, 1, 10000}, {0, 1, -4}, {0, 1, -1}};
        for (int[] t : bad) {
            fill(x, 0, 2, 0, 1, 7, 2, 3, 8, t[0], t[1], t[2], 9);
            x.read(1, 0, 0, 1);
            Check.due("read of a bad one", x.read(0, 2, 0, 4), -22);
            Check.due("far(0, 1)", x.far(0, 1), 3);
            Check.due("far(2, 3)", x.far(2, 3), OnlyFar.NONE);
            Check.due("a refused read leaves torn", x.torn(), 1);
            Check.due("read of the bad one alone", x.read(0, 2, 6, 1), -20);
        }
        fill(x, 0, 2, 0, 1, 7, 0, 0);
        Check.due("a length that is not whole is not looked at", x.read(0, 2, 0, 2), 1);
        Check.due("torn", x.torn(), 2);
    }

    private static void whatIsLeft() {
        OnlyFar x = Check.of("places 4;");
        x.read(0, 0, 0, 1);
        int[][] bad = {{4, 0, 0, 1}, {-1, 0, 0, 1}, {0, 3, 0, 1}, {0, -1, 0, 1}, {0, 0, 0, 14}, {0, 0, 0, -1}, {4, 0, 0, 0}};
        for (int[] r : bad) {
            Check.due("read", x.read(r[0], r[1], r[2], r[3]), OnlyFar.BAD);
            Check.due("torn", x.torn(), 1);
        }
        fill(x, 0, 0, 1, 2, 3);
        x.sheet(0, 0, -1);
        Check.due("a refused sheet leaves the row", x.read(0, 0, 0, 1), 1);
        x.sheet(0, 0, 3);
        Check.due("a new row has cells 0", x.read(0, 0, 0, 1), -20);
        fill(x, 0, 0, 1, 2, 3);
        x.keep(0);
        x.sheet(0, 0, 3);
        x.back(0);
        Check.due("back leaves sheets", x.read(0, 0, 0, 1), -20);
    }
}
