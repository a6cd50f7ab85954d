/** Promises 21 and 22: sixth, ends. */
public final class MissingTest {
    public static void main(String[] args) {
        sixthByCoordinates();
        sixthEdges();
        endsByTrial();
        endsEdges();
        Check.finish();
    }

    private static void sixthByCoordinates() {
        Check.Lot lot = new Check.Lot(21);
        for (int round = 0; round < 300; round++) {
            Land land = new Land(lot, 4, round % 2 == 0 ? 5 : 70);
            OnlyFar x = land.told();
            if (round % 3 == 0) {
                x.tell(0, 1, OnlyFar.NONE);
            }
            long base = land.far(2, 3);
            long wa = 4 * land.turn(2, 3, 0) * land.turn(2, 3, 0);
            long wb = 4 * land.turn(2, 3, 1) * land.turn(2, 3, 1);
            long root = 4 * Math.abs(land.turn(2, 3, 0) * land.turn(2, 3, 1));
            long turned = land.turn(2, 3, 0) * land.turn(2, 3, 1);
            long n = 2 * base * land.far(0, 1) + (turned < 0 ? -root : root);
            Check.due("sixth N", x.sixth(0, 1, 2, 3, 0), n);
            Check.due("sixth M", x.sixth(0, 1, 2, 3, 1), wa * wb);
            Check.due("sixth 2 D", x.sixth(0, 1, 2, 3, 2), 2 * base);
            Check.due("sixth own", x.sixth(0, 1, 2, 3, turned < 0 ? 4 : 3), land.far(0, 1));
            long other = n + (turned < 0 ? -root : root);
            Check.due("sixth other", x.sixth(1, 0, 3, 2, turned < 0 ? 3 : 4),
                    other % (2 * base) == 0 ? other / (2 * base) : OnlyFar.NONE);
        }
    }

    private static void sixthEdges() {
        OnlyFar x = Check.of("places 5;far 2 3 4;far 0 2 4;far 0 3 4;far 1 2 4;far 1 3 4;far 4 2 5;far 4 3 5;");
        Check.due("sixth in one spot", x.sixth(0, 1, 2, 3, 3), 0);
        Check.due("sixth over against", x.sixth(0, 1, 2, 3, 4), 12);
        Check.due("sixth N", x.sixth(0, 1, 2, 3, 0), 48);
        Check.due("sixth M", x.sixth(0, 1, 2, 3, 1), 48 * 48);
        Check.due("sixth without a whole root", x.sixth(0, 4, 2, 3, 3), OnlyFar.NONE);
        Check.due("sixth without a whole root", x.sixth(0, 4, 2, 3, 4), OnlyFar.NONE);
        Check.due("sixth(.. 5)", x.sixth(0, 1, 2, 3, 5), Check.LONG_BAD);
        Check.due("sixth(.. -1)", x.sixth(0, 1, 2, 3, -1), Check.LONG_BAD);
        int[][] bad = {{0, 0, 2, 3}, {0, 2, 2, 3}, {0, 3, 2, 3}, {2, 1, 2, 3}, {3, 1, 2, 3}, {0, 1, 2, 2}, {0, 1, 2, 5}};
        for (int[] f : bad) {
            Check.due("sixth", x.sixth(f[0], f[1], f[2], f[3], 0), Check.LONG_BAD);
        }
        int[][] five = {{2, 3}, {0, 2}, {0, 3}, {1, 2}, {1, 3}};
        for (int[] two : five) {
            int was = x.tell(two[0], two[1], OnlyFar.NONE);
            Check.due("sixth of four", x.sixth(0, 1, 2, 3, 0), Check.LONG_STATE);
            x.tell(two[0], two[1], was);
        }
        x.tell(0, 2, 100);
        Check.due("sixth that can not be", x.sixth(0, 1, 2, 3, 0), Check.LONG_STATE);
        Check.due("sixth that can not be", x.sixth(1, 0, 2, 3, 4), Check.LONG_STATE);
        OnlyFar most = Check.of("places 4;far 0 1 9999;far 0 2 9999;far 1 2 9999;far 0 3 9999;far 1 3 9999;");
        Check.due("sixth M at the most", most.sixth(2, 3, 0, 1, 1), 9L * 9999 * 9999 * 9999 * 9999);
        Check.due("sixth at the most", most.sixth(2, 3, 0, 1, 4), 3 * 9999);
    }

    private static void endsByTrial() {
        Check.Lot lot = new Check.Lot(22);
        for (int round = 0; round < 60; round++) {
            OnlyFar x = Check.of("places 5;");
            int high = round % 2 == 0 ? 30 : 9999;
            for (int p = 2; p < 5; p++) {
                x.tell(0, p, lot.from(1, high));
                x.tell(p, 1, lot.from(1, high));
            }
            if (round % 5 == 0) {
                x.tell(0, 4, OnlyFar.NONE);
            }
            int least = 0;
            int greatest = 99999;
            for (int p = 2; p < 5; p++) {
                if (x.far(0, p) > 0) {
                    least = Math.max(least, firstWithin(x.far(0, p), x.far(1, p)));
                    greatest = Math.min(greatest, lastWithin(x.far(0, p), x.far(1, p)));
                }
            }
            Check.due("ends 0", x.ends(0, 1, 0), least);
            Check.due("ends 1", x.ends(1, 0, 1), greatest);
        }
    }

    /** z is within if three with squares x, y, z can be. */
    private static boolean isWithin(long x, long y, long z) {
        return 4 * x * y >= (x + y - z) * (x + y - z);
    }

    private static int firstWithin(int x, int y) {
        int z = 0;
        while (!isWithin(x, y, z)) {
            z++;
        }
        return z;
    }

    private static int lastWithin(int x, int y) {
        int z = x + y;
        while (isWithin(x, y, z + 1)) {
            z++;
        }
        return z;
    }

    private static void endsEdges() {
        OnlyFar x = Check.of("places 4;far 0 1 5;far 0 2 5;");
        Check.due("ends without a third", x.ends(0, 1, 0), 0);
        Check.due("ends without a third", x.ends(0, 1, 1), 99999);
        x.tell(1, 2, 5);
        Check.due("ends", x.ends(0, 1, 0), 0);
        Check.due("ends", x.ends(0, 1, 1), 20);
        x.tell(0, 3, 9801);
        x.tell(1, 3, 1);
        Check.due("ends that leave none", x.ends(0, 1, 0), 98 * 98);
        Check.due("ends that leave none", x.ends(0, 1, 1), 20);
        Check.due("ends(0, 1, 2)", x.ends(0, 1, 2), OnlyFar.BAD);
        Check.due("ends(0, 1, -1)", x.ends(0, 1, -1), OnlyFar.BAD);
        Check.due("ends(1, 1, 0)", x.ends(1, 1, 0), OnlyFar.BAD);
        Check.due("ends(1, 4, 0)", x.ends(1, 4, 0), OnlyFar.BAD);
        Check.due("ends(-1, 1, 0)", x.ends(-1, 1, 0), OnlyFar.BAD);
        OnlyFar zero = Check.of("places 4;far 0 2 4;far 0 3 9;");
        Check.due("ends by PLACE 0", zero.ends(2, 3, 0), 1);
        Check.due("ends by PLACE 0", zero.ends(2, 3, 1), 25);
        OnlyFar most = Check.of("far 0 2 9999;far 1 2 9999;");
        Check.due("ends at the most", most.ends(0, 1, 1), 4 * 9999);
    }
}
