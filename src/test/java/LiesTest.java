/** Promises 15 to 20: bend, foot, height, round, side, within, by places with whole coordinates and by edges. */
public final class LiesTest {
    public static void main(String[] args) {
        byCoordinates();
        edges();
        refusals();
        Check.finish();
    }

    private static void byCoordinates() {
        Check.Lot lot = new Check.Lot(7);
        for (int round = 0; round < 200; round++) {
            Land land = new Land(lot, 4, round % 2 == 0 ? 5 : 70);
            OnlyFar x = land.told();
            for (int a = 0; a < 4; a++) {
                for (int b = 0; b < 4; b++) {
                    for (int c = 0; c < 4; c++) {
                        if (a != b && a != c && b != c) {
                            threes(land, x, a, b, c);
                            fourth(land, x, a, b, c, 6 - a - b - c);
                        }
                    }
                }
            }
        }
    }

    private static void threes(Land land, OnlyFar x, int a, int b, int c) {
        long dot = dot(land, a, b, c);
        long turn = land.turn(a, b, c);
        Check.due("wide", x.wide(a, b, c), 4 * turn * turn);
        Check.due("bend", x.bend(b, a, c), dot > 0 ? 1 : dot == 0 ? 0 : 2);
        fraction("foot", x.foot(a, b, c, 0), x.foot(a, b, c, 1), dot, land.far(a, b));
        fraction("height", x.height(a, b, c, 0), x.height(a, b, c, 1), turn * turn, land.far(a, b));
        if (turn == 0) {
            Check.due("round in a line", x.round(a, b, c, 0), Check.LONG_STATE);
            Check.due("round in a line", x.round(a, b, c, 1), Check.LONG_STATE);
        } else {
            long product = (long) land.far(a, b) * land.far(a, c) * land.far(b, c);
            fraction("round", x.round(a, b, c, 0), x.round(a, b, c, 1), product, 4 * turn * turn);
        }
    }

    private static void fraction(String call, long top, long divisor, long wantTop, long wantDivisor) {
        long common = gcd(Math.abs(wantTop), wantDivisor);
        Check.due(call + " 0", top, wantTop / common);
        Check.due(call + " 1", divisor, wantDivisor / common);
    }

    private static long gcd(long a, long b) {
        return b == 0 ? a : gcd(b, a % b);
    }

    private static long dot(Land land, int a, int b, int c) {
        return (long) (land.xs[b] - land.xs[a]) * (land.xs[c] - land.xs[a])
                + (long) (land.ys[b] - land.ys[a]) * (land.ys[c] - land.ys[a]);
    }

    private static void fourth(Land land, OnlyFar x, int a, int b, int c, int d) {
        Check.due("four", x.four(a, b, c, d), 1);
        int sign = Long.signum(land.turn(a, b, c)) * Long.signum(land.turn(a, b, d));
        Check.due("side", x.side(a, b, c, d), sign < 0 ? -5 : sign);
        int whole = Long.signum(land.turn(a, b, c));
        if (whole == 0) {
            Check.due("within a line", x.within(a, b, c, d), OnlyFar.STATE);
            return;
        }
        boolean in = whole * land.turn(a, b, d) >= 0 && whole * land.turn(b, c, d) >= 0 && whole * land.turn(c, a, d) >= 0;
        Check.due("within", x.within(a, b, c, d), in ? 1 : 0);
    }

    private static void edges() {
        OnlyFar x = Check.of("places 4;far 0 1 9999;far 0 2 9998;far 1 2 1;");
        Check.due("bend", x.bend(0, 2, 1), 0);
        Check.due("foot", x.foot(0, 2, 1, 0), 1);
        Check.due("foot", x.foot(0, 2, 1, 1), 1);
        Check.due("foot at 0", x.foot(2, 0, 1, 0), 0);
        Check.due("foot at 0", x.foot(2, 0, 1, 1), 1);
        Check.due("height", x.height(0, 2, 1, 0), 1);
        Check.due("round", x.round(0, 1, 2, 0), 9999);
        Check.due("round", x.round(0, 1, 2, 1), 4);
        OnlyFar blunt = Check.of("far 0 1 4;far 0 2 4;far 1 2 15;");
        Check.due("bend", blunt.bend(1, 0, 2), 2);
        Check.due("foot below 0", blunt.foot(0, 1, 2, 0), -7);
        Check.due("foot below 0", blunt.foot(0, 1, 2, 1), 8);
        OnlyFar least = Check.of("far 0 1 1;far 0 2 1;far 1 2 1;");
        Check.due("bend", least.bend(1, 0, 2), 1);
        least.tell(1, 2, 2);
        Check.due("bend", least.bend(1, 0, 2), 0);
        least.tell(1, 2, 3);
        Check.due("bend", least.bend(1, 0, 2), 2);
        OnlyFar no = Check.of("far 0 1 1;far 0 2 1;far 1 2 9;");
        Check.due("bend of three that can not be", no.bend(1, 0, 2), 2);
    }

    private static void refusals() {
        OnlyFar x = Check.of("places 5;far 0 1 1;far 0 2 1;far 1 2 9;far 0 3 1;far 1 3 1;far 2 3 1;");
        for (int what = 0; what < 2; what++) {
            Check.due("foot that can not be", x.foot(0, 1, 2, what), Check.LONG_STATE);
            Check.due("height that can not be", x.height(0, 1, 2, what), Check.LONG_STATE);
            Check.due("round that can not be", x.round(0, 1, 2, what), Check.LONG_STATE);
            Check.due("foot of none", x.foot(0, 1, 4, what), Check.LONG_STATE);
            Check.due("height of none", x.height(0, 1, 4, what), Check.LONG_STATE);
            Check.due("round of none", x.round(0, 1, 4, what), Check.LONG_STATE);
        }
        int[][] bad = {{0, 1, 2, 2}, {0, 1, 2, -1}, {0, 1, 1, 0}, {0, 0, 1, 0}, {1, 0, 1, 0}, {0, 1, 5, 0}, {-1, 0, 1, 1}};
        for (int[] t : bad) {
            Check.due("foot", x.foot(t[0], t[1], t[2], t[3]), Check.LONG_BAD);
            Check.due("height", x.height(t[0], t[1], t[2], t[3]), Check.LONG_BAD);
            Check.due("round", x.round(t[0], t[1], t[2], t[3]), Check.LONG_BAD);
        }
        Check.due("bend of none", x.bend(0, 1, 4), OnlyFar.NONE);
        Check.due("side that can not be", x.side(0, 1, 2, 3), OnlyFar.STATE);
        Check.due("within that can not be", x.within(0, 1, 2, 3), OnlyFar.STATE);
        Check.due("side of none", x.side(0, 1, 2, 4), OnlyFar.STATE);
        Check.due("within of none", x.within(0, 1, 2, 4), OnlyFar.STATE);
        int[][] alike = {{0, 0, 1, 2}, {0, 1, 0, 2}, {0, 1, 2, 0}, {0, 1, 1, 2}, {0, 1, 2, 1}, {0, 1, 2, 2}, {0, 1, 2, 5}};
        for (int[] f : alike) {
            Check.due("side alike", x.side(f[0], f[1], f[2], f[3]), OnlyFar.BAD);
            Check.due("within alike", x.within(f[0], f[1], f[2], f[3]), OnlyFar.BAD);
        }
    }
}
