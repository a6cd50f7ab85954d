/** Promise 30: maps. */
public final class MapsTest {
    private static int found;
    private static int[] first;

    public static void main(String[] args) {
        byTrial();
        edges();
        Check.finish();
    }

    private static void byTrial() {
        Check.Lot lot = new Check.Lot(30);
        for (int round = 0; round < 120; round++) {
            int n = lot.from(2, 7);
            int[] kept = lengths(lot, n, lot.from(1, 3));
            int[] own = lot.below(4) == 0 ? lengths(lot, n, 2) : renamed(lot, n, kept);
            OnlyFar x = Check.of("places " + n + ";");
            tell(x, n, kept);
            x.keep(round % 2);
            tell(x, n, own);
            found = 0;
            first = null;
            tryNames(own, kept, n, 0, new int[n]);
            Check.due("maps 0", x.maps(round % 2, 0), found);
            for (int p = 0; p < n; p++) {
                Check.due("maps 10 and " + p, x.maps(round % 2, 10 + p), found == 0 ? OnlyFar.NONE : first[p]);
            }
            Check.due("maps to no PLACE", x.maps(round % 2, 10 + n), OnlyFar.BAD);
            Check.due("maps to none", x.maps(1 - round % 2, 0), OnlyFar.STATE);
        }
    }

    private static int[] lengths(Check.Lot lot, int n, int kinds) {
        int[] far = new int[49];
        for (int b = 1; b < n; b++) {
            for (int a = 0; a < b; a++) {
                int v = lot.below(kinds + 1);
                far[7 * a + b] = v;
                far[7 * b + a] = v;
            }
        }
        return far;
    }

    private static int[] renamed(Check.Lot lot, int n, int[] far) {
        int[] names = new int[n];
        for (int p = 0; p < n; p++) {
            names[p] = p;
        }
        for (int p = n - 1; p > 0; p--) {
            int q = lot.below(p + 1);
            int t = names[p];
            names[p] = names[q];
            names[q] = t;
        }
        int[] other = new int[49];
        for (int a = 0; a < n; a++) {
            for (int b = 0; b < n; b++) {
                other[7 * names[a] + names[b]] = far[7 * a + b];
            }
        }
        return other;
    }

    private static void tell(OnlyFar x, int n, int[] far) {
        for (int b = 1; b < n; b++) {
            for (int a = 0; a < b; a++) {
                x.tell(a, b, far[7 * a + b] == 0 ? OnlyFar.NONE : far[7 * a + b]);
            }
        }
    }

    private static void tryNames(int[] own, int[] kept, int n, int p, int[] names) {
        if (p == n) {
            for (int a = 0; a < n; a++) {
                for (int b = 0; b < n; b++) {
                    if (own[7 * a + b] != kept[7 * names[a] + names[b]]) {
                        return;
                    }
                }
            }
            found++;
            if (first == null) {
                first = names.clone();
            }
            return;
        }
        for (int name = 0; name < n; name++) {
            boolean free = true;
            for (int q = 0; q < p; q++) {
                free &= names[q] != name;
            }
            if (free) {
                names[p] = name;
                tryNames(own, kept, n, p + 1, names);
            }
        }
    }

    private static void edges() {
        OnlyFar x = Check.of("places 7;");
        x.keep(0);
        Check.due("maps of bare places", x.maps(0, 0), 5040);
        Check.due("maps 16", x.maps(0, 16), 6);
        Check.due("maps 17", x.maps(0, 17), OnlyFar.BAD);
        Check.due("maps 9", x.maps(0, 9), OnlyFar.BAD);
        Check.due("maps 1", x.maps(0, 1), OnlyFar.BAD);
        Check.due("maps -1", x.maps(0, -1), OnlyFar.BAD);
        Check.due("maps of IMAGE 2", x.maps(2, 0), OnlyFar.BAD);
        Check.due("maps of IMAGE -1", x.maps(-1, 0), OnlyFar.BAD);
        Check.due("maps of none", x.maps(1, 16), OnlyFar.STATE);
        x.tell(0, 1, 5);
        Check.due("maps", x.maps(0, 0), 0);
        Check.due("maps 10", x.maps(0, 10), OnlyFar.NONE);
        x.keep(1);
        x.tell(0, 1, OnlyFar.NONE);
        x.tell(5, 6, 5);
        Check.due("maps", x.maps(1, 0), 240);
        Check.due("maps 10", x.maps(1, 10), 2);
        Check.due("maps 15", x.maps(1, 15), 0);
        Check.due("maps 16", x.maps(1, 16), 1);
        x.land();
        Check.due("maps behind land", x.maps(1, 0), OnlyFar.STATE);
    }
}
