/** Boundary cases of promises 6 to 14: far, tell, pair, wide, three, four, wrong, falses, doubt. */
final class ThreesBounds extends Bounds {
    /** Squares 01, 02, 12, 03, 13, 23 whose threes can be, with the determinant -2, 0, 0, 4. */
    static final int[] BELOW = {1, 1, 1, 1, 2, 4}, SQUARE = {1, 2, 1, 1, 2, 1}, LINE = {1, 4, 1, 9, 4, 1},
        ABOVE = {1, 1, 1, 1, 1, 1};

    /** The determinant is 0, but none of their threes can be; then all but one (012, 013, 023, 123), which is in a line. */
    static final int[][] NO_THREES = {{1, 8, 3, 15, 8, 1}, {1, 4, 1, 15, 8, 3}, {1, 15, 8, 4, 1, 3}, {15, 1, 8, 4, 3, 1},
        {3, 8, 1, 15, 4, 1}};

    static void all() {
        farAndTell();
        pairs();
        wides();
        threes();
        fours();
        foursOfTold();
        wrongs();
        falses();
        leastBits();
        doubts();
    }

    private static void farAndTell() {
        says(6, "The LENGTH of two PLACES");
        of("places 7;far 0 1 1;far 5 6 9999;").due("far 0 1", 1).due("far 1 0", 1).due("far 5 6", 9999).due("far 6 5", 9999);
        says(6, "BAD: also one and itself");
        Run x = alike(3, 5);
        for (int p = -1; p <= 3; p++) {
            x.due("far " + p + " " + p, BAD);
        }
        x.due("far 0 3", BAD).due("far 3 0", BAD).due("far 0 -1", BAD).due("far -1 0", BAD).due("far 0 2", 5);
        says(6, "NONE");
        fresh().due("far 0 2", NONE).due("far 0 3", BAD).due("far 0 0", BAD);
        says(7, "It becomes v (1 to 9999; NONE: none is told)");
        int[] taken = {1, 2, 9998, 9999};
        for (int v : taken) {
            fresh().due("tell 2 0 " + v, NONE).due("far 0 2", v).due("far 2 0", v).due("count 1", 1);
        }
        Run y = fresh().due("tell 0 1 7", NONE).due("tell 1 0 NONE", 7).due("far 0 1", NONE).due("count 1", 0);
        int[] bad = {0, -1, -2, -3, -5, 10000, 10001, Integer.MIN_VALUE, Integer.MAX_VALUE};
        for (int v : bad) {
            y.due("tell 0 1 " + v, BAD).due("far 0 1", NONE);
        }
        says(7, "what it was");
        fresh().due("tell 0 1 1", NONE).due("tell 1 0 9999", 1).due("tell 0 1 9999", 9999).due("tell 0 1 NONE", 9999)
                .due("tell 0 1 NONE", NONE).due("tell 0 1 1", NONE);
        says(7, "BAD likewise");
        Run z = alike(3, 5).due("tell 0 0 5", BAD).due("tell 0 3 5", BAD).due("tell 3 0 5", BAD).due("tell -1 0 5", BAD);
        z.due("tell 0 -1 5", BAD).due("tell 1 1 NONE", BAD).due("tell 0 3 NONE", BAD).due("tell 0 1 0", BAD);
        z.due("count 1", 3).due("far 0 1", 5).due("tell 0 2 6", 5);
        says(7, "; NONE.");
        fresh().due("tell 0 1 NONE", NONE).due("tell 0 1 0", BAD).due("tell 0 1 5", NONE).due("tell 0 1 6", 5);
    }

    private static void pairs() {
        says(8, "The PAIR of two PLACES");
        of("places 7;").due("pair 0 1", 0).due("pair 1 0", 0).due("pair 5 6", 20).due("pair 6 5", 20).due("pair 0 6", 15)
                .due("pair 0 2", 1).due("pair 4 5", 14);
        says(8, "BAD likewise");
        for (int n = 2; n <= 7; n++) {
            Run x = of("places " + n + ";").due("pair 0 " + n, BAD).due("pair " + n + " 0", BAD).due("pair -1 0", BAD);
            x.due("pair 0 -1", BAD).due("pair 0 0", BAD).due("pair " + (n - 1) + " " + (n - 1), BAD);
            x.due("pair 0 " + (n - 1), (n - 1) * (n - 2) / 2);
        }
    }

    private static void wides() {
        terms("Of three PLACES, ab, ac, bc being squares: WIDE is 4 times ab times ac, less the square of (ab and ac less bc):"
                + " sixteen times the square of what they enclose");
        points(0, 0, 4, 0, 0, 3).due("wide 0 1 2", 16 * 36);
        says(9, "WIDE");
        three(1, 1, 1).due("wide 0 1 2", 3);
        three(1, 1, 4).due("wide 0 1 2", 0).due("wide 2 1 0", 0);
        three(1, 2, 6).due("wide 0 1 2", -1).due("wide 1 2 0", -1).due("wide 2 0 1", -1);
        three(9999, 9999, 9999).due("wide 0 1 2", 299940003L);
        three(1, 1, 9999).due("wide 0 1 2", -99940005L).due("wide 1 0 2", -99940005L).due("wide 1 2 0", -99940005L);
        says(9, "BAD -9000000000: also alike");
        Run x = alike(3, 5);
        x.due("wide 0 0 1", LONG_BAD).due("wide 0 1 0", LONG_BAD).due("wide 1 0 0", LONG_BAD).due("wide 0 1 3", LONG_BAD);
        x.due("wide 3 0 1", LONG_BAD).due("wide 0 -1 1", LONG_BAD).due("wide 0 1 2", 75);
        says(9, "STATE -9000000001: a LENGTH is missing");
        three(0, 5, 5).due("wide 0 1 2", LONG_STATE).due("wide 0 1 1", LONG_BAD);
        three(5, 0, 5).due("wide 0 1 2", LONG_STATE);
        three(5, 5, 0).due("wide 0 1 2", LONG_STATE).due("tell 1 2 5", NONE).due("wide 0 1 2", 75);
        three(0, 0, 0).due("wide 0 1 2", LONG_STATE);
    }

    private static void threes() {
        terms("Three CAN BE, if WIDE is 0 or more");
        three(1, 2, 6).due("three 0 1 2", 0);
        three(1, 1, 4).due("three 0 1 2", 1);
        three(1, 3, 7).due("wide 0 1 2", 3).due("three 0 1 2", 1);
        three(2500, 2401, 9801).due("wide 0 1 2", 0).due("three 0 1 2", 1).call("tell 1 2 9802").due("three 0 1 2", 0)
                .call("tell 1 2 9800").due("three 0 1 2", 1);
        says(10, "Whether three CAN BE (1, 0)");
        three(4, 9, 25).due("three 0 1 2", 1).due("three 2 0 1", 1).call("tell 1 2 26").due("three 0 1 2", 0)
                .call("tell 1 2 1").due("three 0 1 2", 1);
        three(9, 25, 3).due("three 0 1 2", 0).call("tell 1 2 4").due("three 0 1 2", 1);
        says(10, "BAD: also alike");
        alike(3, 5).due("three 0 0 1", BAD).due("three 0 1 0", BAD).due("three 1 0 0", BAD).due("three 0 1 3", BAD)
                .due("three -1 0 1", BAD).due("three 0 1 2", 1);
        says(10, "NONE: a LENGTH is missing");
        three(0, 5, 5).due("three 0 1 2", NONE).due("three 0 0 1", BAD);
        three(5, 0, 5).due("three 0 1 2", NONE);
        three(5, 5, 0).due("three 0 1 2", NONE).call("tell 1 2 5").due("three 0 1 2", 1);
    }

    private static void fours() {
        terms("Four CAN BE, if each three of them CAN BE, and (a being the least of them, the others b, c, d) the determinant"
                + " of the rows 2 ab, ab and ac less bc, ab and ad less bd; ab and ac less bc, 2 ac, ac and ad less cd; ab and"
                + " ad less bd, ac and ad less cd, 2 ad is 0");
        lengths(4, BELOW).due("four 0 1 2 3", 0).due("wrong 0", 0);
        lengths(4, SQUARE).due("four 0 1 2 3", 1).due("four 3 1 0 2", 1);
        lengths(4, LINE).due("four 0 1 2 3", 1).due("four 2 0 3 1", 1);
        lengths(4, ABOVE).due("four 0 1 2 3", 0).due("wrong 0", 0);
        for (int[] squares : NO_THREES) {
            lengths(4, squares).due("four 0 1 2 3", 0).due("four 3 2 1 0", 0).due("four 1 3 0 2", 0).due("wrong 1", 1);
        }
    }

    private static void foursOfTold() {
        says(11, "Whether four CAN BE (1, 0)");
        points(0, 0, 99, 0, 0, 10, 99, 10).due("four 0 1 2 3", 1).call("tell 2 3 9802").due("four 0 1 2 3", 0)
                .call("tell 2 3 9800").due("four 0 1 2 3", 0).call("tell 2 3 9801").due("four 3 0 2 1", 1);
        alike(4, 9999).due("four 0 1 2 3", 0);
        says(11, "BAD: also alike");
        Run x = lengths(4, SQUARE);
        int[][] alike = {{0, 0, 1, 2}, {0, 1, 0, 2}, {0, 1, 2, 0}, {1, 0, 0, 2}, {1, 0, 2, 0}, {1, 2, 0, 0}, {0, 1, 2, 4},
            {4, 0, 1, 2}, {-1, 0, 1, 2}, {0, 1, 2, -1}};
        for (int[] f : alike) {
            x.due("four " + f[0] + " " + f[1] + " " + f[2] + " " + f[3], BAD);
        }
        says(11, "NONE: a LENGTH is missing");
        for (int pair = 0; pair < 6; pair++) {
            int[] missing = SQUARE.clone();
            missing[pair] = 0;
            lengths(4, missing).due("four 0 1 2 3", NONE).due("four 3 2 1 0", NONE).due("four 0 1 2 2", BAD);
        }
        alike(3, 5).due("four 0 1 2 3", BAD);
    }

    private static void wrongs() {
        says(12, "How many threes, all told, can not be (what 0)");
        three(1, 2, 6).due("wrong 0", 1).due("wrong 2", 0).due("wrong 3", 1).call("tell 1 2 NONE").due("wrong 0", 0);
        three(1, 1, 4).due("wrong 0", 0).due("wrong 2", 1).due("wrong 3", 1);
        three(1, 3, 7).due("wrong 0", 0).due("wrong 2", 0).due("wrong 3", 1);
        says(12, "fours (1)");
        lengths(4, BELOW).due("wrong 1", 1);
        lengths(4, SQUARE).due("wrong 1", 0);
        lengths(4, ABOVE).due("wrong 1", 1).call("tell 2 3 NONE").due("wrong 1", 0);
        alike(3, 1).due("wrong 1", 0);
        says(12, "threes that are in a line (2)");
        points(0, 0, 1, 0, 2, 0, 3, 0, 4, 0, 5, 0, 6, 0).due("wrong 2", 35).due("wrong 0", 0).due("wrong 1", 0)
                .due("wrong 3", 35).call("tell 0 6 35").due("wrong 2", 30).call("tell 0 6 NONE").due("wrong 2", 30);
        says(12, "all threes told (3)");
        fresh().due("wrong 3", 0);
        of("places 2;far 0 1 5;").due("wrong 3", 0);
        three(1, 1, 0).due("wrong 3", 0).call("tell 1 2 1").due("wrong 3", 1);
        alike(7, 1).due("wrong 3", 35).due("wrong 1", 35).due("wrong 0", 0);
        // Lengths that grow as the square of what they should be: no three can be.
        int[] squares = new int[21];
        for (int b = 1; b < 7; b++) {
            for (int a = 0; a < b; a++) {
                squares[b * (b - 1) / 2 + a] = (b - a) * (b - a) * (b - a) * (b - a);
            }
        }
        lengths(7, squares).due("wrong 0", 35).due("wrong 1", 35).due("wrong 2", 0).due("wrong 3", 35).due("falses 0", NONE);
        says(12, "BAD");
        fresh().due("wrong -1", BAD).due("wrong 0", 0).due("wrong 3", 0).due("wrong 4", BAD).due("wrong MIN", BAD)
                .due("wrong MAX", BAD);
    }

    /** Threes that share no PAIR, each with one LENGTH that is false. */
    private static Run falseThrees(int many) {
        int[][] threes = {{0, 1, 2}, {0, 3, 4}, {1, 3, 5}, {2, 4, 5}};
        Run x = of("places 7;");
        for (int i = 0; i < many; i++) {
            int[] t = threes[i];
            x.call("tell " + t[0] + " " + t[1] + " 1").call("tell " + t[0] + " " + t[2] + " 1");
            x.call("tell " + t[1] + " " + t[2] + " 9");
        }
        return x;
    }

    private static void falses() {
        terms("FALSE: the fewest LENGTHS (3 at most) without which all threes and fours whose LENGTHS are all told CAN BE");
        for (int many = 0; many <= 4; many++) {
            falseThrees(many).due("falses 0", many <= 3 ? many : NONE);
        }
        lengths(4, BELOW).due("falses 0", 1).due("falses 1", 1);
        lengths(4, SQUARE).due("falses 0", 0).due("falses 1", 0);
        three(1, 2, 6).due("falses 0", 1);
        three(1, 1, 4).due("falses 0", 0);
        alike(4, 1).due("falses 0", 1);
        alike(5, 1).due("falses 0", 2).due("falses 1", 1 << 2 | 1 << 3);
        alike(6, 1).due("falses 0", 3).due("falses 1", 1 << 5 | 1 << 7 | 1 << 10);
        alike(7, 1).due("falses 0", NONE).due("falses 1", NONE);
        says(13, "FALSE: how many (what 0), these by PAIRS (1; bits)");
        fresh().due("falses 0", 0).due("falses 1", 0);
        of("places 7;far 0 5 1;far 0 6 1;far 5 6 9;far 1 5 1;far 1 6 1;").due("falses 0", 1).due("falses 1", 1 << 20);
        of("places 2;far 0 1 5;").due("falses 0", 0).due("falses 1", 0);
        says(13, "BAD");
        fresh().due("falses -1", BAD).due("falses 2", BAD).due("falses MIN", BAD).due("falses MAX", BAD);
        falseThrees(4).due("falses 2", BAD).due("falses -1", BAD);
        says(13, "NONE: more than 3");
        falseThrees(3).due("falses 0", 3).due("falses 1", 1 | 1 << 3 | 1 << 4);
        falseThrees(4).due("falses 0", NONE).due("falses 1", NONE).call("tell 2 4 NONE").due("falses 0", 3);
    }

    private static void leastBits() {
        terms("of several such sets that with the least bits (by PAIRS)");
        three(1, 1, 9).due("falses 1", 1);
        of("places 7;far 4 5 1;far 4 6 1;far 5 6 9;").due("falses 1", 1 << 14);
        // Fewer come ahead of less: 0 1 and 5 6, though 0 2 with two others than 5 6 would have less bits.
        of("places 7;far 0 1 1;far 0 2 1;far 1 2 9;far 3 5 1;far 3 6 1;far 4 5 1;far 4 6 1;far 5 6 9;").due("falses 0", 2)
                .due("falses 1", 1 | 1 << 20);
        // The greatest PAIR of the first three is less than the least of the second one; and the PAIRS mixed.
        of("places 6;far 0 1 1;far 0 2 1;far 1 2 9;far 3 4 1;far 3 5 1;far 4 5 9;").due("falses 1", 1 | 1 << 9);
        of("places 6;far 1 2 1;far 1 5 1;far 2 5 9;far 0 3 1;far 0 4 1;far 3 4 9;").due("falses 1", 1 << 2 | 1 << 3);
        of("places 4;far 0 1 1;far 0 2 1;far 1 2 9;far 1 3 1;far 2 3 1;").due("falses 0", 1).due("falses 1", 1 << 2);
    }

    private static void doubts() {
        says(14, "The PAIR without whose LENGTH the fewest threes and fours can not be, fewer than now, of several the least"
                + " (what 0), how many fewer (1)");
        three(1, 2, 6).due("doubt 0", 0).due("doubt 1", 1);
        three(1, 1, 4).due("doubt 0", NONE).due("doubt 1", NONE);
        of("places 7;far 4 5 1;far 4 6 1;far 5 6 9;").due("doubt 0", 14).due("doubt 1", 1);
        of("places 7;far 0 5 1;far 0 6 1;far 5 6 9;far 1 5 1;far 1 6 1;").due("doubt 0", 20).due("doubt 1", 2);
        of("places 4;far 0 1 1;far 0 2 1;far 1 2 9;far 1 3 1;far 2 3 1;").due("doubt 0", 2).due("doubt 1", 2);
        lengths(4, BELOW).due("doubt 0", 0).due("doubt 1", 1);
        alike(7, 1).due("doubt 0", 0).due("doubt 1", 10);
        lengths(4, NO_THREES[0]).due("doubt 0", 0).due("doubt 1", 3);
        lengths(4, NO_THREES[1]).due("doubt 0", 3).due("doubt 1", 3);
        three(1, 2, 6).due("doubt 0", 0).call("tell 1 2 3").due("doubt 0", NONE).due("doubt 1", NONE).call("tell 1 2 6")
                .due("doubt 1", 1);
        alike(4, 1).due("doubt 1", 1).call("tell 0 1 9").due("doubt 0", 0).due("doubt 1", 3).call("tell 0 1 3")
                .due("doubt 0", NONE);
        says(14, "BAD");
        fresh().due("doubt -1", BAD).due("doubt 2", BAD).due("doubt MIN", BAD).due("doubt MAX", BAD);
        three(1, 2, 6).due("doubt 2", BAD).due("doubt -1", BAD);
        says(14, "NONE");
        fresh().due("doubt 0", NONE).due("doubt 1", NONE);
        lengths(4, SQUARE).due("doubt 0", NONE).due("doubt 1", NONE);
        of("places 2;far 0 1 5;").due("doubt 0", NONE);
    }
}
