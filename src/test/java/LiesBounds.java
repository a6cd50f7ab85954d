/** Boundary cases of promises 15 to 20: bend, foot, height, round, side, within. */
final class LiesBounds extends Bounds {
    static void all() {
        bends();
        fractions();
        feet();
        heights();
        rounds();
        refusedThrees();
        sides();
        sidesRefused();
        withins();
        withinRefused();
    }

    private static void bends() {
        terms("A BEND at b of a, b, c: ab and bc less ac");
        three(2, 4, 3).due("bend 0 1 2", 1).due("bend 2 1 0", 1).due("bend 1 0 2", 1).due("bend 0 2 1", 1);
        says(15, "The BEND at b: 1 sharp (above 0), 0 square, 2 blunt");
        three(2, 4, 3).due("bend 0 1 2", 1).call("tell 0 2 5").due("bend 0 1 2", 0).call("tell 0 2 6").due("bend 0 1 2", 2);
        three(5000, 9998, 4999).due("bend 0 1 2", 1).call("tell 0 2 9999").due("bend 0 1 2", 0);
        three(4999, 9999, 4999).due("bend 0 1 2", 2);
        three(1, 9, 1).due("bend 0 1 2", 2).due("bend 1 0 2", 1);
        three(1, 4, 1).due("bend 0 1 2", 2).due("bend 0 2 1", 1);
        says(15, "BAD: also alike");
        alike(3, 5).due("bend 0 0 1", BAD).due("bend 0 1 0", BAD).due("bend 1 0 0", BAD).due("bend 0 1 3", BAD)
                .due("bend 0 3 1", BAD).due("bend -1 0 1", BAD).due("bend 0 1 2", 1);
        says(15, "NONE: a LENGTH is missing");
        three(0, 5, 5).due("bend 0 1 2", NONE).due("bend 0 1 1", BAD);
        three(5, 0, 5).due("bend 0 1 2", NONE);
        three(5, 5, 0).due("bend 0 1 2", NONE).call("tell 1 2 5").due("bend 0 1 2", 1);
    }

    private static void fraction(Run x, String call, long top, long divisor) {
        x.due(call + " 0", top).due(call + " 1", divisor);
    }

    private static void fractions() {
        terms("Fractions are in lowest terms, told as two numbers, first the numerator, then the denominator, which is above 0"
                + " (0 is 0 by 1)");
        fraction(three(2, 3, 5), "foot 0 1 2", 0, 1);
        fraction(three(2, 3, 4), "foot 0 1 2", 1, 4);
        fraction(three(2, 3, 6), "foot 0 1 2", -1, 4);
        fraction(three(4, 9, 5), "foot 0 1 2", 1, 1);
        fraction(three(9999, 9999, 9999), "foot 0 1 2", 1, 2);
        fraction(three(6, 6, 9), "foot 0 1 2", 1, 4);
        fraction(three(1, 1, 4), "height 0 1 2", 0, 1);
        fraction(three(9999, 9999, 9999), "height 0 1 2", 29997, 4);
        fraction(three(9999, 9999, 9999), "round 0 1 2", 3333, 1);
        fraction(three(9973, 9967, 9949), "round 0 1 2", 9973L * 9967 * 9949, 4L * 9973 * 9967 - 9991L * 9991);
    }

    private static void feet() {
        terms("A FOOT of c on a, b: how far from a, as a part of a to b: (ab and ac less bc) by 2 ab");
        fraction(points(0, 0, 4, 0, -1, 2), "foot 0 1 2", -1, 4);
        fraction(points(0, 0, 4, 0, 0, 2), "foot 0 1 2", 0, 1);
        fraction(points(0, 0, 4, 0, 1, 2), "foot 0 1 2", 1, 4);
        fraction(points(0, 0, 4, 0, 1, 2), "foot 1 0 2", 3, 4);
        fraction(points(0, 0, 4, 0, 4, 2), "foot 0 1 2", 1, 1);
        fraction(points(0, 0, 4, 0, 5, 2), "foot 0 1 2", 5, 4);
        says(16, "The FOOT of c on a, b: 0, 1");
        fraction(points(0, 0, 4, 0, 5, 0), "foot 0 1 2", 5, 4);
        fraction(points(0, 0, 1, 0, 99, 0), "foot 0 1 2", 99, 1);
        fraction(points(0, 0, 99, 0, 1, 0), "foot 0 1 2", 1, 99);
        fraction(three(1, 1, 4), "foot 0 1 2", -1, 1);
        says(16, "BAD -9000000000");
        alike(3, 5).due("foot 0 1 2 -1", LONG_BAD).due("foot 0 1 2 2", LONG_BAD).due("foot 0 1 3 0", LONG_BAD)
                .due("foot 0 1 1 0", LONG_BAD).due("foot 0 0 1 0", LONG_BAD).due("foot 0 1 2 0", 1).due("foot 0 1 2 1", 2);
    }

    private static void heights() {
        terms("HEIGHT of c above a, b: its square: WIDE by 4 ab");
        fraction(points(0, 0, 4, 0, 1, 2), "height 0 1 2", 4, 1);
        fraction(points(0, 0, 4, 0, 1, 0), "height 0 1 2", 0, 1);
        fraction(points(0, 0, 4, 0, -9, -1), "height 0 1 2", 1, 1);
        says(17, "HEIGHT of c above a, b: 0, 1");
        fraction(three(1, 1, 1), "height 0 1 2", 3, 4);
        fraction(three(1, 3, 7), "height 0 2 1", 1, 4);
        fraction(three(1, 3, 7), "height 1 2 0", 3, 28);
    }

    private static void rounds() {
        terms("ROUND of three: the square of half the width of the circle through them: ab times ac times bc by WIDE");
        fraction(points(0, 0, 6, 0, 0, 8), "round 0 1 2", 25, 1);
        fraction(points(0, 0, 1, 0, 0, 1), "round 2 0 1", 1, 2);
        says(18, "ROUND: 0, 1");
        fraction(three(1, 1, 1), "round 0 1 2", 1, 3);
        fraction(three(1, 3, 7), "round 0 1 2", 7, 1);
        says(18, "BAD, STATE likewise (also in a line)");
        three(1, 1, 4).due("round 0 1 2 0", LONG_STATE).due("round 0 1 2 1", LONG_STATE).due("round 0 1 2 2", LONG_BAD);
        points(0, 0, 99, 0, 49, 0).due("round 0 1 2 0", LONG_STATE).due("round 1 2 0 1", LONG_STATE);
        three(1, 2, 6).due("round 0 1 2 0", LONG_STATE);
    }

    /** What the three fractions refuse alike; two told LENGTHS are alike, so that 0 in place of none would be in a line. */
    private static void refusedThrees() {
        says(16, "STATE -9000000001: they can not be, a LENGTH is missing");
        refusedThree("foot");
        says(17, "BAD, STATE likewise");
        refusedThree("height");
        says(18, "BAD, STATE likewise");
        refusedThree("round");
    }

    private static void refusedThree(String name) {
        for (int what = 0; what < 2; what++) {
            three(1, 2, 6).due(name + " 0 1 2 " + what, LONG_STATE).due(name + " 2 1 0 " + what, LONG_STATE)
                    .due(name + " 0 1 1 " + what, LONG_BAD).due(name + " 0 1 2 2", LONG_BAD);
            three(0, 5, 5).due(name + " 0 1 2 " + what, LONG_STATE);
            three(5, 0, 5).due(name + " 0 1 2 " + what, LONG_STATE).due(name + " 0 1 2 -1", LONG_BAD);
            three(5, 5, 0).due(name + " 0 1 2 " + what, LONG_STATE).due(name + " 0 1 3 " + what, LONG_BAD);
        }
        Run x = alike(3, 5);
        int[][] bad = {{0, 0, 1}, {0, 1, 0}, {1, 0, 0}, {0, 1, 3}, {0, 3, 1}, {3, 0, 1}, {-1, 0, 1}, {0, -1, 1}, {0, 1, -1}};
        for (int[] t : bad) {
            x.due(name + " " + t[0] + " " + t[1] + " " + t[2] + " 0", LONG_BAD);
        }
    }

    private static void sides() {
        terms("SIDE of c and d by the line of a and b: the sign of 2 ab times (ac and ad less cd), less (ab and ac less bc) times"
                + " (ab and ad less bd): 1 the same side, -1 the other one, 0: one is on it");
        for (int y = -1; y <= 1; y++) {
            for (int z = -1; z <= 1; z++) {
                int due = y * z < 0 ? -5 : y * z;
                points(0, 0, 4, 0, 1, y, 2, z).due("side 0 1 2 3", due).due("side 1 0 3 2", due);
                points(0, 0, 4, 0, -5, y, 9, z).due("side 0 1 2 3", due).due("side 0 1 3 2", due);
            }
        }
        says(19, "SIDE of c and d by a and b (-5 in place of -1)");
        points(0, 0, 4, 0, 1, 1, 1, -1).due("side 0 1 2 3", -5).due("side 2 3 0 1", -5);
        points(0, 0, 4, 0, 1, 1, 1, 2).due("side 0 1 2 3", 1).due("side 2 3 0 1", -5);
        points(0, 0, 99, 0, 99, 1, 0, -1).due("side 0 1 2 3", -5);
    }

    private static void refusedFours(String name) {
        String call = name + " 0 1 2 3";
        lengths(4, ThreesBounds.BELOW).due(call, STATE).due(name + " 0 1 2 2", BAD);
        lengths(4, ThreesBounds.ABOVE).due(call, STATE);
        for (int[] squares : ThreesBounds.NO_THREES) {
            lengths(4, squares).due(call, STATE).due(name + " 3 2 1 0", STATE).due(name + " 1 3 0 2", STATE);
        }
        Run square = lengths(4, ThreesBounds.SQUARE);
        for (int a = 0; a < 4; a++) {
            for (int b = 0; b < a; b++) {
                long was = square.ask("tell " + a + " " + b + " NONE");
                square.due(call, STATE).due(name + " 3 1 0 2", STATE).due(name + " 0 0 2 3", BAD);
                square.call("tell " + a + " " + b + " " + was);
            }
        }
        square.due("four 0 1 2 3", 1);
        oneMissing(name);
    }

    /** With 0 in place of what is missing the four would be two spots told twice, or three in a line: that must not count. */
    private static void oneMissing(String name) {
        int[][] missing = {{0, 1, 1, 2, 2, 1}, {1, 0, 1, 2, 1, 2}, {1, 1, 0, 1, 2, 2}, {1, 2, 1, 0, 1, 2}, {1, 1, 2, 1, 0, 2},
            {1, 2, 1, 2, 1, 0}};
        for (int[] squares : missing) {
            Run x = lengths(4, squares);
            for (String places : new String[] {" 0 1 2 3", " 0 2 1 3", " 0 3 1 2", " 1 2 0 3", " 1 3 0 2", " 2 3 0 1"}) {
                x.due(name + places, STATE).due("four" + places, NONE);
            }
        }
    }

    private static void sidesRefused() {
        says(19, "BAD: also alike");
        Run x = lengths(4, ThreesBounds.SQUARE);
        int[][] bad = {{0, 0, 1, 2}, {0, 1, 0, 2}, {0, 1, 2, 0}, {1, 0, 0, 2}, {1, 0, 2, 0}, {1, 2, 0, 0}, {0, 1, 2, 4},
            {4, 0, 1, 2}, {-1, 0, 1, 2}, {0, 1, 2, -1}};
        for (int[] f : bad) {
            x.due("side " + f[0] + " " + f[1] + " " + f[2] + " " + f[3], BAD);
        }
        says(19, "STATE: four that can not be, a LENGTH is missing");
        refusedFours("side");
    }

    private static void withins() {
        says(20, "Whether p is within a, b, c or on their rim (1, 0)");
        int[][] orders = {{0, 1, 2}, {1, 2, 0}, {2, 1, 0}};
        for (int px = -2; px <= 7; px++) {
            for (int py = -2; py <= 7; py++) {
                boolean corner = px == 0 && py == 0 || px == 6 && py == 0 || px == 0 && py == 6;
                if (corner) {
                    continue;
                }
                Run x = points(0, 0, 6, 0, 0, 6, px, py);
                int due = px >= 0 && py >= 0 && px + py <= 6 ? 1 : 0;
                for (int[] o : orders) {
                    x.due("within " + o[0] + " " + o[1] + " " + o[2] + " 3", due);
                }
            }
        }
        points(0, 0, 98, 0, 0, 14, 7, 13).due("within 0 1 2 3", 1).due("within 1 3 2 0", STATE);
        points(0, 0, 97, 0, 0, 14, 7, 13).due("within 0 1 2 3", 0);
    }

    private static void withinRefused() {
        says(20, "BAD");
        Run x = points(0, 0, 6, 0, 0, 6, 1, 1);
        int[][] bad = {{0, 0, 1, 2}, {0, 1, 0, 2}, {0, 1, 2, 0}, {1, 0, 0, 2}, {1, 0, 2, 0}, {1, 2, 0, 0}, {0, 1, 2, 4},
            {4, 0, 1, 2}, {-1, 0, 1, 2}, {0, 1, 2, -1}};
        for (int[] f : bad) {
            x.due("within " + f[0] + " " + f[1] + " " + f[2] + " " + f[3], BAD);
        }
        says(20, "STATE: likewise, or these three are in a line");
        refusedFours("within");
        lengths(4, ThreesBounds.LINE).due("within 0 1 2 3", STATE).due("within 0 1 2 2", BAD);
        points(0, 0, 1, 0, 2, 0, 1, 5).due("within 0 1 2 3", STATE).due("within 2 0 1 3", STATE).due("within 0 2 3 1", 1);
        points(0, 0, 1, 0, 2, 1, 1, 5).due("within 0 1 2 3", 0);
    }
}
