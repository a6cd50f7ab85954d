/** Boundary cases of promises 21 and 22: sixth, ends. */
final class MissingBounds extends Bounds {
    static void all() {
        sixthWords();
        sixthWhole();
        sixthRefused();
        endsOfOne();
        endsOfSeveral();
        endsRefused();
    }

    /** PLACES 0 and 1 above 2 and 3; the LENGTH of 0 and 1 is told as v, 0 for none. */
    private static Run above(int v, int base, int ca, int da, int cb, int db) {
        return lengths(4, v, ca, cb, da, db, base);
    }

    private static void sixth(Run x, long n, long m, long d) {
        x.due("sixth 0 1 2 3 0", n).due("sixth 0 1 2 3 1", m).due("sixth 0 1 2 3 2", d);
    }

    private static void values(Run x, long same, long other) {
        x.due("sixth 0 1 2 3 3", same).due("sixth 0 1 2 3 4", other).due("sixth 1 0 3 2 3", same).due("sixth 1 0 3 2 4", other);
    }

    private static void sixthWords() {
        terms("THE SIXTH: of a and b, c and d being told with all but ab: with D the square of cd, P of a place x: D and cx less"
                + " dx, W its WIDE with c and d: N is 2 D times (ca and cb), less P of a times P of b; M is W of a times W of b");
        sixth(above(0, 1, 1, 1, 1, 1), 3, 9, 2);
        sixth(above(0, 9999, 9999, 9999, 9999, 9999), 3L * 9999 * 9999, 9L * 9999 * 9999 * 9999 * 9999, 2 * 9999);
        sixth(above(0, 4, 1, 1, 5, 5), 32, 0, 8);
        sixth(above(0, 1, 2, 5, 1, 4), 2 * 3 - (-2) * (-2), 4 * 0, 2);
        terms("ab is (N less the root of M) by 2 D, if both are on one side of the line of c and d, (N and the root of M) by 2 D"
                + " else");
        values(above(0, 16, 5, 13, 10, 2), 5, 13);
        values(above(0, 4, 1, 1, 5, 5), 4, 4);
        says(21, "THE SIXTH (that of a and b is not looked at): 0 N, 1 M, 2 2 D");
        int[] ignored = {0, 1, 3, 9999};
        for (int v : ignored) {
            Run x = above(v, 1, 1, 1, 1, 1);
            sixth(x, 3, 9, 2);
            values(x, 0, 3);
        }
    }

    private static void sixthWhole() {
        says(21, "3 the LENGTH on one side, 4 on both, where it is whole (NONE -4)");
        values(above(0, 1, 1, 1, 1, 1), 0, 3);
        values(above(0, 9999, 9999, 9999, 9999, 9999), 0, 3 * 9999);
        // M is 24, one less than a square; then far from one.
        above(0, 1, 1, 1, 3, 2).due("sixth 0 1 2 3 1", 24).due("sixth 0 1 2 3 3", NONE).due("sixth 0 1 2 3 4", NONE);
        above(0, 4, 4, 4, 5, 5).due("sixth 0 1 2 3 1", 48 * 64).due("sixth 0 1 2 3 3", NONE).due("sixth 0 1 2 3 4", NONE);
        // The root is whole, but only one of the two lengths is: c (0, 0), d (2, 1), a (1, 0), b (0, 1).
        values(above(0, 5, 1, 2, 1, 4), NONE, 2);
        values(above(0, 5, 1, 2, 4, 1), 1, NONE);
        values(above(0, 2, 1, 2, 1, 2), 0, NONE);
        values(above(0, 6, 1, 6, 2, 3), NONE, NONE);
        values(above(0, 4, 1, 1, 1, 2), NONE, NONE);
        values(points(0, 0, 60, 70, 60, 0, 0, 70), NONE, 8500);
    }

    private static void sixthRefused() {
        says(21, "BAD -9000000000: also alike");
        Run x = alike(4, 1);
        int[][] bad = {{0, 0, 2, 3, 0}, {0, 1, 0, 3, 0}, {0, 1, 2, 0, 0}, {0, 1, 1, 3, 0}, {0, 1, 2, 1, 0}, {0, 1, 2, 2, 0},
            {4, 1, 2, 3, 0}, {0, 4, 2, 3, 0}, {0, 1, 4, 3, 0}, {0, 1, 2, 4, 0}, {-1, 1, 2, 3, 0}, {0, 1, 2, 3, -1},
            {0, 1, 2, 3, 5}};
        for (int[] f : bad) {
            x.due("sixth " + f[0] + " " + f[1] + " " + f[2] + " " + f[3] + " " + f[4], LONG_BAD);
        }
        x.due("sixth 0 1 2 3 0", 3).due("sixth 0 1 2 3 4", 3).due("sixth 0 1 2 3 MIN", LONG_BAD);
        says(21, "STATE -9000000001: one of the five is missing, a three with c and d can not be");
        String[] five = {"0 2", "0 3", "1 2", "1 3", "2 3"};
        for (String two : five) {
            Run y = above(7, 1, 1, 1, 1, 1).call("tell " + two + " NONE");
            for (int what = 0; what <= 4; what++) {
                y.due("sixth 0 1 2 3 " + what, LONG_STATE).due("sixth 1 0 3 2 " + what, LONG_STATE);
            }
            y.due("sixth 0 1 2 3 5", LONG_BAD).due("sixth 0 0 2 3 0", LONG_BAD).call("tell " + two + " 1");
            y.due("sixth 0 1 2 3 0", 3);
        }
        above(0, 1, 2, 6, 1, 1).due("sixth 0 1 2 3 0", LONG_STATE).due("sixth 0 1 2 3 4", LONG_STATE);
        above(0, 1, 1, 1, 2, 6).due("sixth 0 1 2 3 0", LONG_STATE).due("sixth 0 1 2 3 3", LONG_STATE);
        above(0, 1, 2, 6, 2, 6).due("sixth 0 1 2 3 1", LONG_STATE);
        above(0, 1, 1, 4, 1, 1).due("sixth 0 1 2 3 1", 0);
        above(0, 1, 1, 1, 1, 4).due("sixth 0 1 2 3 1", 0);
        // Threes of a and b that can not be are not asked for.
        above(9999, 1, 1, 1, 1, 1).due("three 0 1 2", 0).due("sixth 0 1 2 3 4", 3);
    }

    private static void ends(Run x, long least, long greatest) {
        x.due("ends 0 1 0", least).due("ends 0 1 1", greatest).due("ends 1 0 0", least).due("ends 1 0 1", greatest);
    }

    private static void endsOfOne() {
        terms("ENDS of a PAIR: by each third PLACE with both LENGTHS x, y told: from x and y less twice the root of x times y, to x"
                + " and y and twice that: the whole squares that are within all of these");
        ends(three(0, 4, 9), 1, 25);
        ends(three(0, 1, 2), 1, 5);
        ends(three(0, 1, 3), 1, 7);
        ends(three(0, 2, 3), 1, 9);
        ends(three(0, 1, 1), 0, 4);
        ends(three(0, 9999, 9999), 0, 4 * 9999);
        ends(three(0, 1, 9999), 9801, 10199);
        ends(three(0, 1, 9801), 98 * 98, 100 * 100);
        ends(three(7, 4, 9), 1, 25);
        for (int v = 0; v <= 26; v++) {
            three(Math.max(v, 1), 4, 9).due("three 0 1 2", Math.max(v, 1) <= 25 ? 1 : 0);
        }
        says(22, "ENDS: the least (what 0), the greatest (1; 99999: there is no third PLACE)");
        ends(fresh(), 0, 99999);
        ends(of("places 2;far 0 1 5;"), 0, 99999);
        ends(three(5, 4, 0), 0, 99999);
        ends(three(5, 0, 4), 0, 99999);
        ends(of("places 7;far 0 6 4;far 1 6 9;"), 1, 25);
        of("places 7;far 0 6 4;far 0 5 9;").due("ends 5 6 0", 1).due("ends 5 6 1", 25);
    }

    private static void endsOfSeveral() {
        says(22, "(0 is the least, if there is no third PLACE; the greatest may be less than the least.)");
        ends(of("places 4;far 0 2 1;far 1 3 1;"), 0, 99999);
        ends(of("places 4;far 0 2 1;far 1 2 1;far 0 3 1;far 1 3 8;"), 4, 4);
        ends(of("places 4;far 0 2 1;far 1 2 1;far 0 3 1;far 1 3 9;"), 4, 4);
        ends(of("places 4;far 0 2 1;far 1 2 1;far 0 3 1;far 1 3 10;"), 5, 4);
        ends(of("places 4;far 0 2 1;far 1 2 1;far 0 3 1;far 1 3 9999;"), 9801, 4);
        ends(of("places 5;far 0 2 1;far 1 2 9;far 0 3 4;far 1 3 4;far 0 4 9999;far 1 4 9999;"), 4, 16);
    }

    private static void endsRefused() {
        says(22, "BAD: also alike");
        Run x = alike(3, 5).due("ends 0 0 0", BAD).due("ends 2 2 1", BAD).due("ends 0 3 0", BAD).due("ends 3 0 0", BAD);
        x.due("ends -1 0 0", BAD).due("ends 0 -1 0", BAD).due("ends 0 1 -1", BAD).due("ends 0 1 2", BAD).due("ends 0 1 MIN", BAD);
        x.due("ends 0 1 0", 0).due("ends 0 1 1", 20);
    }
}
