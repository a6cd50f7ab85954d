/** Promises 23 to 25: drawings, spare, base, against all ways to put the places on sides. */
public final class DrawingsTest {
    private static int laid;
    private static int offLine;
    private static int ways;

    public static void main(String[] args) {
        byTrial();
        signsThatClash();
        onTheLine();
        refusals();
        bases();
        Check.finish();
    }

    private static void byTrial() {
        Check.Lot lot = new Check.Lot(23);
        for (int round = 0; round < 250; round++) {
            int places = lot.from(2, 7);
            OnlyFar x = thinned(lot, places, round % 3);
            int best = OnlyFar.NONE;
            int bestLaid = 0;
            int bestWays = 0;
            for (int b = 1; b < places; b++) {
                for (int a = 0; a < b; a++) {
                    compare(x, a, b);
                    int many = Integer.bitCount(laid);
                    boolean better = best == OnlyFar.NONE || many > bestLaid || many == bestLaid && ways < bestWays;
                    if (x.far(a, b) > 0 && ways > 0 && better) {
                        best = x.pair(a, b);
                        bestLaid = many;
                        bestWays = ways;
                    }
                }
            }
            Check.due("base of " + round, x.base(), best);
        }
    }

    /** A land with some lengths missing, some false and some turned over in the mirror of 0, 1. */
    private static OnlyFar thinned(Check.Lot lot, int places, int kind) {
        Land land = new Land(lot, places, 6);
        OnlyFar x = land.told();
        int gone = lot.below(places * 2);
        for (int i = 0; i < gone; i++) {
            int a = lot.below(places);
            x.tell(a, (a + 1 + lot.below(places - 1)) % places, OnlyFar.NONE);
        }
        if (kind == 1) {
            int a = lot.below(places);
            x.tell(a, (a + 1 + lot.below(places - 1)) % places, lot.from(1, 50));
        }
        if (kind == 2 && places > 3) {
            int a = lot.from(2, places - 1);
            int b = a == 2 ? 3 : 2;
            long other = x.sixth(a, b, 0, 1, 3 + lot.below(2));
            if (other >= 1 && other <= 9999) {
                x.tell(a, b, (int) other);
            }
        }
        return x;
    }

    private static void compare(OnlyFar x, int a, int b) {
        int[] far = Land.table(x);
        int n = x.count(0);
        if (far[7 * a + b] == 0) {
            Check.due("drawings without a base", x.drawings(a, b, 0), OnlyFar.STATE);
            Check.due("drawings without a base", x.drawings(a, b, 10), OnlyFar.STATE);
            Check.due("spare without a base", x.spare(a, b, b, a), OnlyFar.STATE);
            return;
        }
        int first = tryAll(far, n, a, b);
        int groups = groups(far, n);
        Check.due("drawings 0", x.drawings(a, b, 0), ways);
        Check.due("drawings 0 turned", x.drawings(b, a, 0), ways);
        Check.due("drawings 1", x.drawings(a, b, 1), laid);
        Check.due("drawings 2", x.drawings(a, b, 2), groups);
        Check.due("drawings 3", x.drawings(a, b, 3), ways == 0 ? OnlyFar.NONE : Math.max(0, groups - 1));
        for (int k = 0; k < n; k++) {
            Check.due("drawings 10 and " + k, x.drawings(a, b, 10 + k), sideDue(far, n, first, k));
        }
        compareSpare(x, far, n, a, b);
    }

    private static int sideDue(int[] far, int n, int first, int k) {
        if (ways == 0 || (laid >> k & 1) == 0) {
            return OnlyFar.NONE;
        }
        if ((offLine >> k & 1) == 0) {
            return 0;
        }
        int least = Integer.numberOfTrailingZeros(groupOf(far, n, k));
        return (first >> k & 1) == (first >> least & 1) ? 1 : 2;
    }

    private static void compareSpare(OnlyFar x, int[] far, int n, int a, int b) {
        for (int c = 0; c < n; c++) {
            for (int d = 0; d < n; d++) {
                tryAll(far, n, a, b);
                int all = ways;
                int want;
                if (c == d) {
                    want = OnlyFar.BAD;
                } else if ((laid >> c & 1) == 0 || (laid >> d & 1) == 0 || far[7 * c + d] == 0) {
                    want = OnlyFar.NONE;
                } else {
                    int[] without = far.clone();
                    without[7 * c + d] = 0;
                    without[7 * d + c] = 0;
                    tryAll(without, n, a, b);
                    want = ways == all ? 1 : 0;
                }
                Check.due("spare", x.spare(a, b, c, d), want);
            }
        }
        tryAll(far, n, a, b);
    }

    /** Counts in doubles where each place lies; answers the sides (bits) of one way that holds. */
    private static int tryAll(int[] far, int n, int a, int b) {
        laid = 0;
        offLine = 0;
        ways = 0;
        double base = Math.sqrt(far[7 * a + b]);
        double[] along = new double[7];
        double[] above = new double[7];
        for (int p = 0; p < n; p++) {
            if (p == a || p == b || far[7 * a + p] == 0 || far[7 * b + p] == 0 || Land.wide(far, a, b, p) < 0) {
                continue;
            }
            laid |= 1 << p;
            along[p] = (far[7 * a + b] + far[7 * a + p] - far[7 * b + p]) / (2 * base);
            if (Land.wide(far, a, b, p) > 0) {
                offLine |= 1 << p;
                above[p] = Math.sqrt(Land.wide(far, a, b, p)) / (2 * base);
            }
        }
        int some = 0;
        int held = 0;
        for (int sides = 0; sides < 1 << n; sides++) {
            if ((sides & ~offLine) == 0 && holds(far, n, sides, along, above)) {
                held++;
                some = sides;
            }
        }
        ways = offLine == 0 ? held : held / 2;
        return some;
    }

    private static boolean holds(int[] far, int n, int sides, double[] along, double[] above) {
        for (int q = 0; q < n; q++) {
            for (int p = 0; p < q; p++) {
                if ((laid >> p & laid >> q & 1) == 0 || far[7 * p + q] == 0) {
                    continue;
                }
                double dx = along[p] - along[q];
                double dy = ((sides >> p & 1) == 0 ? above[p] : -above[p]) - ((sides >> q & 1) == 0 ? above[q] : -above[q]);
                if (Math.abs(dx * dx + dy * dy - far[7 * p + q]) > 1e-7) {
                    return false;
                }
            }
        }
        return true;
    }

    private static int groupOf(int[] far, int n, int k) {
        int group = 1 << k;
        for (int turn = 0; turn < n; turn++) {
            for (int p = 0; p < n; p++) {
                for (int q = 0; q < n; q++) {
                    if ((group >> p & 1) != 0 && (offLine >> q & 1) != 0 && far[7 * p + q] != 0) {
                        group |= 1 << q;
                    }
                }
            }
        }
        return group;
    }

    private static int groups(int[] far, int n) {
        int groups = 0;
        for (int k = 0; k < n; k++) {
            if ((offLine >> k & 1) != 0 && Integer.numberOfTrailingZeros(groupOf(far, n, k)) == k) {
                groups++;
            }
        }
        return groups;
    }

    /** Each length is as by THE SIXTH, but no sides hold all three. */
    private static void signsThatClash() {
        OnlyFar x = Check.of("places 5;far 0 1 16;far 0 2 8;far 1 2 8;far 0 3 5;far 1 3 13;far 0 4 13;far 1 4 5;");
        int[] same = {(int) x.sixth(2, 3, 0, 1, 3), (int) x.sixth(3, 4, 0, 1, 3)};
        x.tell(2, 3, same[0]);
        x.tell(3, 4, same[1]);
        x.tell(2, 4, (int) x.sixth(2, 4, 0, 1, 3));
        Check.due("drawings of one side", x.drawings(0, 1, 0), 1);
        Check.due("spare", x.spare(0, 1, 2, 4), 1);
        x.tell(2, 4, (int) x.sixth(2, 4, 0, 1, 4));
        Check.due("drawings that clash", x.drawings(0, 1, 0), 0);
        Check.due("drawings 2", x.drawings(0, 1, 2), 1);
        Check.due("drawings 3", x.drawings(0, 1, 3), OnlyFar.NONE);
        Check.due("drawings 12", x.drawings(0, 1, 12), OnlyFar.NONE);
        Check.due("spare of one that clashes", x.spare(0, 1, 4, 2), 0);
        x.tell(2, 3, OnlyFar.NONE);
        Check.due("drawings", x.drawings(0, 1, 0), 1);
        Check.due("side of 2", x.drawings(0, 1, 12), 1);
        Check.due("side of 3", x.drawings(0, 1, 13), 2);
        Check.due("side of 4", x.drawings(0, 1, 14), 2);
        Check.due("spare", x.spare(0, 1, 3, 4), 0);
    }

    /** A place on the line ties no two others together; a length to it can still be false. */
    private static void onTheLine() {
        OnlyFar x = Check.of("places 5;far 0 1 16;far 0 2 4;far 1 2 4;far 0 3 5;far 1 3 13;far 0 4 5;far 1 4 13;"
                + "far 2 3 5;far 2 4 5;");
        Check.due("drawings", x.drawings(0, 1, 0), 2);
        Check.due("GROUPS", x.drawings(0, 1, 2), 2);
        Check.due("to be paced", x.drawings(0, 1, 3), 1);
        Check.due("side of 2", x.drawings(0, 1, 12), 0);
        Check.due("spare", x.spare(0, 1, 2, 3), 1);
        x.tell(2, 3, 3);
        Check.due("drawings", x.drawings(0, 1, 0), 0);
        Check.due("side of 2", x.drawings(0, 1, 12), OnlyFar.NONE);
        Check.due("spare", x.spare(0, 1, 2, 4), 1);
        Check.due("spare", x.spare(0, 1, 2, 3), 0);
        OnlyFar bare = Check.of("places 2;far 0 1 5;");
        Check.due("drawings of a bare base", bare.drawings(0, 1, 0), 1);
        Check.due("drawings of a bare base", bare.drawings(0, 1, 1), 0);
        Check.due("drawings of a bare base", bare.drawings(0, 1, 3), 0);
        Check.due("base", bare.base(), 0);
        OnlyFar many = Check.of("places 7;far 0 1 4;far 0 2 4;far 1 2 4;far 0 3 4;far 1 3 4;far 0 4 4;far 1 4 4;"
                + "far 0 5 4;far 1 5 4;far 0 6 4;far 1 6 4;");
        Check.due("drawings", many.drawings(0, 1, 0), 16);
        Check.due("LAID", many.drawings(0, 1, 1), 124);
        Check.due("GROUPS", many.drawings(0, 1, 2), 5);
        Check.due("to be paced", many.drawings(0, 1, 3), 4);
        many.tell(0, 6, 100);
        Check.due("LAID without three that can not be", many.drawings(0, 1, 1), 60);
    }

    private static void refusals() {
        OnlyFar x = Check.of("places 4;far 0 1 4;");
        int[][] bad = {{0, 1, 4}, {0, 1, 9}, {0, 1, 14}, {0, 1, -1}, {0, 0, 0}, {0, 4, 0}, {-1, 0, 0},
            {0, 1, Integer.MIN_VALUE}, {0, 1, Integer.MAX_VALUE}, {2, 2, 0}};
        for (int[] t : bad) {
            Check.due("drawings", x.drawings(t[0], t[1], t[2]), OnlyFar.BAD);
        }
        Check.due("drawings", x.drawings(2, 3, 0), OnlyFar.STATE);
        Check.due("drawings", x.drawings(0, 1, 13), OnlyFar.NONE);
        Check.due("spare", x.spare(0, 0, 2, 3), OnlyFar.BAD);
        Check.due("spare", x.spare(0, 1, 2, 4), OnlyFar.BAD);
        Check.due("spare", x.spare(2, 3, 1, 1), OnlyFar.BAD);
        Check.due("spare", x.spare(2, 3, 0, 1), OnlyFar.STATE);
        Check.due("spare", x.spare(0, 1, 0, 1), OnlyFar.NONE);
        Check.due("spare", x.spare(0, 1, 2, 3), OnlyFar.NONE);
    }

    private static void bases() {
        OnlyFar x = new OnlyFar();
        Check.due("base of nothing", x.base(), OnlyFar.NONE);
        x.tell(1, 2, 4);
        Check.due("base", x.base(), 2);
        x.tell(0, 2, 4);
        Check.due("base", x.base(), 1);
        x = Check.of("places 5;far 3 4 9;far 0 3 9;far 0 4 9;far 0 1 1;");
        Check.due("base with the most LAID", x.base(), x.pair(0, 3));
    }
}
