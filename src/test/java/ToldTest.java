/** Promises 26 to 29: tells, words, at, spots. */
public final class ToldTest {
    public static void main(String[] args) {
        byTrial();
        tellsAndWords();
        refusals();
        spots();
        Check.finish();
    }

    private static void byTrial() {
        Check.Lot lot = new Check.Lot(26);
        for (int round = 0; round < 60; round++) {
            int n = lot.from(2, 7);
            OnlyFar x = Check.of("places " + n + ";");
            for (int b = 1; b < n; b++) {
                for (int a = 0; a < b; a++) {
                    int v = lot.below(3);
                    x.tell(a, b, v == 0 ? OnlyFar.NONE : v);
                }
            }
            for (int p = 0; p < n; p++) {
                wordsByTrial(x, n, p);
            }
            for (int a = 0; a < n; a++) {
                for (int b = 0; b < n; b++) {
                    atByTrial(x, n, a, b, lot.from(1, 2), lot.from(1, 2));
                }
            }
        }
    }

    private static void wordsByTrial(OnlyFar x, int n, int p) {
        int best = 0;
        for (int some = -3; some < (1 << n) + 3; some++) {
            if (some <= 0 || some >= 1 << n || (some >> p & 1) != 0) {
                Check.due("tells of no such", x.tells(p, some), OnlyFar.BAD);
                continue;
            }
            boolean told = isTold(x, n, p, some);
            Check.due("tells", x.tells(p, some), told ? 1 : 0);
            if (told && (best == 0 || Integer.bitCount(some) < Integer.bitCount(best))) {
                best = some;
            }
        }
        Check.due("words 0", x.words(p, 0), best == 0 ? OnlyFar.NONE : Integer.bitCount(best));
        Check.due("words 1", x.words(p, 1), best == 0 ? OnlyFar.NONE : best);
    }

    private static boolean isTold(OnlyFar x, int n, int p, int some) {
        for (int q = 0; q < n; q++) {
            boolean alike = true;
            for (int s = 0; s < n; s++) {
                if ((some >> s & 1) != 0) {
                    if (x.far(p, s) == OnlyFar.NONE) {
                        return false;
                    }
                    alike &= q != s && x.far(q, s) == x.far(p, s);
                }
            }
            if (alike != (q == p)) {
                return false;
            }
        }
        return true;
    }

    private static void atByTrial(OnlyFar x, int n, int a, int b, int from, int to) {
        int bits = 0;
        for (int p = 0; p < n; p++) {
            if (p != a && p != b && x.far(a, p) == from && x.far(b, p) == to) {
                bits |= 1 << p;
            }
        }
        Check.due("at", x.at(a, from, b, to), a == b ? OnlyFar.BAD : bits);
    }

    private static void tellsAndWords() {
        OnlyFar x = Check.of("places 4;far 0 1 4;far 0 2 4;far 0 3 9;far 1 3 5;far 2 3 6;");
        Check.due("tells", x.tells(1, 1), 0);
        Check.due("tells", x.tells(3, 1), 1);
        Check.due("tells", x.tells(1, 9), 1);
        Check.due("tells without a length", x.tells(1, 4), 0);
        Check.due("words", x.words(1, 0), 1);
        Check.due("words", x.words(1, 1), 8);
        Check.due("words", x.words(3, 1), 1);
        OnlyFar alone = Check.of("places 2;");
        Check.due("words of none", alone.words(0, 0), OnlyFar.NONE);
        Check.due("words of none", alone.words(0, 1), OnlyFar.NONE);
        alone.tell(0, 1, 3);
        Check.due("words", alone.words(0, 1), 2);
        OnlyFar two = Check.of("places 5;far 0 1 1;far 0 2 1;far 0 3 2;far 4 1 1;far 4 2 2;far 4 3 1;");
        Check.due("words by two", two.words(1, 0), 2);
        Check.due("words by two", two.words(1, 1), 17);
    }

    private static void refusals() {
        OnlyFar x = Check.of("places 4;far 0 1 4;");
        int[] some = {0, -1, 16, 17, 1 << 30, Integer.MIN_VALUE, Integer.MAX_VALUE, 2, 3};
        for (int bits : some) {
            Check.due("tells(1, " + bits + ")", x.tells(1, bits), OnlyFar.BAD);
        }
        Check.due("tells", x.tells(4, 1), OnlyFar.BAD);
        Check.due("tells", x.tells(-1, 1), OnlyFar.BAD);
        Check.due("words", x.words(4, 0), OnlyFar.BAD);
        Check.due("words", x.words(-1, 0), OnlyFar.BAD);
        Check.due("words", x.words(0, 2), OnlyFar.BAD);
        Check.due("words", x.words(0, -1), OnlyFar.BAD);
        int[][] bad = {{0, 0, 1, 4}, {0, 4, 1, 0}, {0, 10000, 1, 4}, {0, 4, 1, 10000}, {0, 4, 0, 4}, {0, 4, 4, 4},
            {-1, 4, 1, 4}, {0, -4, 1, 4}};
        for (int[] f : bad) {
            Check.due("at", x.at(f[0], f[1], f[2], f[3]), OnlyFar.BAD);
            Check.due("spots", x.spots(f[0], f[1], f[2], f[3]), OnlyFar.BAD);
        }
        Check.due("at", x.at(0, 9999, 1, 9999), 0);
        Check.due("at", x.at(2, 4, 3, 4), 0);
        Check.due("spots", x.spots(0, 4, 2, 4), OnlyFar.STATE);
    }

    private static void spots() {
        OnlyFar x = Check.of("far 0 1 16;");
        Check.due("spots apart", x.spots(0, 1, 1, 1), 0);
        Check.due("spots touching", x.spots(0, 4, 1, 4), 1);
        Check.due("spots crossing", x.spots(0, 4, 1, 5), 2);
        Check.due("spots inside, touching", x.spots(0, 1, 1, 25), 1);
        Check.due("spots inside", x.spots(0, 1, 1, 26), 0);
        Check.due("spots turned", x.spots(1, 25, 0, 1), 1);
        Check.due("spots on one another", x.spots(1, 9999, 0, 9999), 2);
        Check.due("spots", x.spots(1, 9999, 0, 1), 0);
    }
}
