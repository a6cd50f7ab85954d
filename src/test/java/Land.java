/** Lands whose places have whole coordinates, and the document's words tried in the plainest way. */
final class Land {
    final int places;
    final int[] xs;
    final int[] ys;

    /** Unlike places within a square of a width. */
    Land(Check.Lot lot, int places, int width) {
        this.places = places;
        xs = new int[places];
        ys = new int[places];
        for (int p = 0; p < places; p++) {
            do {
                xs[p] = lot.below(width);
                ys[p] = lot.below(width);
            } while (isTaken(p));
        }
    }

    private boolean isTaken(int p) {
        for (int q = 0; q < p; q++) {
            if (far(p, q) == 0) {
                return true;
            }
        }
        return false;
    }

    int far(int p, int q) {
        int dx = xs[p] - xs[q];
        int dy = ys[p] - ys[q];
        return dx * dx + dy * dy;
    }

    /** Twice what a, b, p enclose, below 0 if p is on the right. */
    long turn(int a, int b, int p) {
        return (long) (xs[b] - xs[a]) * (ys[p] - ys[a]) - (long) (ys[b] - ys[a]) * (xs[p] - xs[a]);
    }

    /** An object with all lengths told. */
    OnlyFar told() {
        OnlyFar x = Check.of("places " + places + ";");
        for (int b = 1; b < places; b++) {
            for (int a = 0; a < b; a++) {
                x.tell(a, b, far(a, b));
            }
        }
        return x;
    }

    /** A land told in full, but for some lengths that are false and some that are missing. */
    static OnlyFar spoiled(Check.Lot lot, int places, int times) {
        OnlyFar x = new Land(lot, places, 9).told();
        for (int i = 0; i < times; i++) {
            int a = lot.below(places);
            x.tell(a, (a + 1 + lot.below(places - 1)) % places, lot.from(1, 120));
        }
        for (int i = 0; i < lot.below(3); i++) {
            int a = lot.below(places);
            x.tell(a, (a + 1 + lot.below(places - 1)) % places, OnlyFar.NONE);
        }
        return x;
    }

    /** All lengths by 7 times one place and the other; 0 if none. */
    static int[] table(OnlyFar x) {
        int n = x.count(0);
        int[] far = new int[49];
        for (int a = 0; a < n; a++) {
            for (int b = 0; b < n; b++) {
                far[7 * a + b] = a == b ? 0 : Math.max(0, x.far(a, b));
            }
        }
        return far;
    }

    private static int pair(int a, int b) {
        return Math.max(a, b) * (Math.max(a, b) - 1) / 2 + Math.min(a, b);
    }

    private static boolean isTold(int[] far, int without, int... places) {
        for (int i = 0; i < places.length; i++) {
            for (int j = 0; j < i; j++) {
                if (far[7 * places[i] + places[j]] == 0 || (without >> pair(places[i], places[j]) & 1) != 0) {
                    return false;
                }
            }
        }
        return true;
    }

    static long wide(int[] far, int a, int b, int c) {
        long ab = far[7 * a + b];
        long ac = far[7 * a + c];
        long bc = far[7 * b + c];
        return 2 * (ab * ac + ab * bc + ac * bc) - ab * ab - ac * ac - bc * bc;
    }

    static int badThrees(int[] far, int n, int without) {
        int bad = 0;
        for (int a = 0; a < n; a++) {
            for (int b = a + 1; b < n; b++) {
                for (int c = b + 1; c < n; c++) {
                    if (isTold(far, without, a, b, c) && wide(far, a, b, c) < 0) {
                        bad++;
                    }
                }
            }
        }
        return bad;
    }

    static int badFours(int[] far, int n, int without) {
        int bad = 0;
        for (int a = 0; a < n; a++) {
            for (int b = a + 1; b < n; b++) {
                for (int c = b + 1; c < n; c++) {
                    for (int d = c + 1; d < n; d++) {
                        if (isTold(far, without, a, b, c, d) && !canBeFour(far, a, b, c, d)) {
                            bad++;
                        }
                    }
                }
            }
        }
        return bad;
    }

    static boolean canBeFour(int[] far, int a, int b, int c, int d) {
        if (wide(far, a, b, c) < 0 || wide(far, a, b, d) < 0 || wide(far, a, c, d) < 0 || wide(far, b, c, d) < 0) {
            return false;
        }
        int[] others = {b, c, d};
        long[][] m = new long[3][3];
        for (int i = 0; i < 3; i++) {
            for (int j = 0; j < 3; j++) {
                m[i][j] = far[7 * a + others[i]] + far[7 * a + others[j]] - far[7 * others[i] + others[j]];
            }
        }
        return m[0][0] * (m[1][1] * m[2][2] - m[1][2] * m[2][1]) - m[0][1] * (m[1][0] * m[2][2] - m[1][2] * m[2][0])
                + m[0][2] * (m[1][0] * m[2][1] - m[1][1] * m[2][0]) == 0;
    }
}
