/** Boundary cases of promises 26 to 29: tells, words, at, spots. */
final class ToldBounds extends Bounds {
    static void all() {
        told();
        tells();
        tellsRefused();
        words();
        ats();
        spots();
    }

    private static void told() {
        terms("TOLD by some PLACES: p has LENGTHS to all of them told, and no other PLACE has just these (a PLACE has 0 to itself)");
        three(1, 1, 1).due("tells 0 2", 0).due("tells 0 4", 0).due("tells 0 6", 1);
        three(1, 1, 0).due("tells 1 1", 0).due("tells 0 2", 1).due("tells 0 6", 1).due("tells 1 4", 0).due("tells 1 5", 0);
        three(0, 1, 1).due("tells 0 2", 0).due("tells 1 1", 0).due("tells 2 1", 1).due("tells 1 5", 0).due("tells 0 6", 0);
        three(1, 2, 0).due("tells 1 1", 1).due("tells 2 1", 1).due("tells 1 4", 0).due("tells 1 5", 0);
        three(9999, 9998, 0).due("tells 1 1", 1).call("tell 0 2 9999").due("tells 1 1", 0).call("tell 0 2 NONE")
                .due("tells 1 1", 1).due("tells 2 1", 0);
        oneMissing();
    }

    /** All squares are unlike, so that p is TOLD by all others, but not when the LENGTH to one of them is missing. */
    private static void oneMissing() {
        int[] squares = new int[21];
        for (int pair = 0; pair < 21; pair++) {
            squares[pair] = pair + 1;
        }
        Run x = lengths(7, squares);
        for (int p = 0; p < 7; p++) {
            String call = "tells " + p + " " + (127 & ~(1 << p));
            x.due(call, 1);
            for (int s = 0; s < 7; s++) {
                if (s != p) {
                    long was = x.ask("tell " + p + " " + s + " NONE");
                    x.due(call, 0).due("tells " + p + " " + (1 << s), 0).call("tell " + p + " " + s + " " + was);
                }
            }
        }
    }

    private static void tells() {
        says(26, "Whether p is TOLD by some PLACES (bits; one at least; 1, 0)");
        of("places 2;far 0 1 5;").due("tells 0 2", 1).due("tells 1 1", 1).due("tells 0 0", BAD).due("tells 1 0", BAD);
        of("places 2;").due("tells 0 2", 0).due("tells 1 1", 0).due("tells 0 0", BAD);
        Run x = alike(7, 5).due("tells 0 126", 1).due("tells 6 63", 1).due("tells 3 119", 1).due("tells 0 0", BAD);
        for (int left = 1; left < 7; left++) {
            x.due("tells 0 " + (126 & ~(1 << left)), 0);
        }
    }

    private static void tellsRefused() {
        says(26, "BAD: also bits of no PLACE, p among them");
        for (int n = 2; n <= 7; n++) {
            Run x = alike(n, 5);
            int all = (1 << n) - 1;
            x.due("tells 0 " + (all & ~1), 1).due("tells 0 " + all, BAD).due("tells 0 1", BAD).due("tells 0 0", BAD);
            x.due("tells 0 " + (1 << n), BAD).due("tells 0 " + (1 << n | 2), BAD).due("tells 0 -2", BAD).due("tells 0 MIN", BAD);
            x.due("tells 0 MAX", BAD).due("tells 0 " + (1 << 30), BAD).due("tells -1 1", BAD).due("tells " + n + " 1", BAD);
            x.due("tells " + (n - 1) + " " + (all >> 1), 1).due("tells " + (n - 1) + " " + (1 << n - 1), BAD);
        }
    }

    private static void words() {
        says(27, "The fewest PLACES by which p is TOLD: how many (what 0), these (1; bits, of several the least)");
        of("places 2;far 0 1 5;").due("words 0 0", 1).due("words 0 1", 2).due("words 1 0", 1).due("words 1 1", 1);
        three(1, 1, 1).due("words 0 0", 2).due("words 0 1", 6).due("words 2 1", 3);
        Run all = alike(7, 5);
        for (int p = 0; p < 7; p++) {
            all.due("words " + p + " 0", 6).due("words " + p + " 1", 127 & ~(1 << p));
        }
        of("places 7;far 0 5 1;far 0 6 1;").due("words 0 0", 1).due("words 0 1", 32);
        // By 0 and 1 together, whose bits are less, and by 4 alone.
        of("places 6;far 5 0 1;far 5 1 1;far 5 4 7;far 2 0 1;far 3 1 1;").due("tells 5 3", 1).due("words 5 0", 1)
                .due("words 5 1", 16);
        // By 1 and 2, not by 0 and 1, not by 0 and 2; then also by 0 and 1.
        of("places 6;far 5 0 1;far 5 1 1;far 5 2 1;far 4 0 1;far 4 1 1;far 3 0 1;far 3 2 1;")
                .due("words 5 0", 2).due("words 5 1", 6).call("tell 4 1 2").call("tell 2 1 1").due("words 5 1", 3);
        says(27, "BAD");
        Run x = three(1, 1, 1).due("words -1 0", BAD).due("words 3 0", BAD).due("words 0 -1", BAD).due("words 0 2", BAD);
        x.due("words MIN 0", BAD).due("words MAX 1", BAD).due("words 0 MIN", BAD).due("words 2 0", 2);
        says(27, "NONE");
        fresh().due("words 0 0", NONE).due("words 0 1", NONE).due("words 0 2", BAD).due("words 3 0", BAD);
        alike(7, 5).call("tell 0 1 NONE").due("words 0 0", NONE).due("words 1 1", NONE).due("words 2 0", 5)
                .due("words 2 1", 121);
        of("places 3;far 0 2 5;far 1 2 5;").due("words 0 0", NONE).due("words 1 0", NONE).due("words 2 0", 1);
    }

    private static void ats() {
        says(28, "PLACES with LENGTHS n to a and m to b (1 to 9999 each; bits)");
        Run x = of("places 7;far 0 1 5;");
        x.due("at 0 1 1 9999", 0);
        for (int p = 2; p < 7; p++) {
            x.call("tell 0 " + p + " 1").call("tell 1 " + p + " 9999");
        }
        x.due("at 0 1 1 9999", 124).due("at 1 9999 0 1", 124).due("at 0 9999 1 1", 0).due("at 0 2 1 9999", 0)
                .due("at 0 1 1 9998", 0).call("tell 0 4 2").call("tell 1 6 9998").due("at 0 1 1 9999", 44);
        x.due("at 0 5 2 5", 0).due("at 1 9999 2 1", 0).call("tell 1 2 NONE").due("at 0 1 1 9999", 40);
        of("places 2;far 0 1 5;").due("at 0 5 1 5", 0).due("at 0 1 1 1", 0);
        three(7, 8, 9).due("at 1 7 2 8", 1).due("at 0 7 2 9", 2).due("at 0 8 1 9", 4).due("at 1 8 2 7", 0);
        says(28, "BAD: also a and b alike");
        refusedSquares("at");
        fresh().due("at 0 1 1 1", 0);
    }

    private static void refusedSquares(String name) {
        Run x = alike(3, 5);
        String[] bad = {"0 5 0 5", "2 5 2 5", "0 0 1 5", "0 5 1 0", "0 10000 1 5", "0 5 1 10000", "0 -4 1 5", "0 5 1 -4",
            "0 MIN 1 5", "0 5 1 MAX", "-1 5 1 5", "0 5 -1 5", "3 5 1 5", "0 5 3 5", "MIN 5 1 5", "0 5 MAX 5"};
        for (String four : bad) {
            x.due(name + " " + four, BAD);
            fresh().due(name + " " + four, BAD);
        }
    }

    private static void spots() {
        says(29, "How many spots in the plane are n from a and m from b (1 to 9999; squares)");
        int[][] due = {{1, 8, 0}, {1, 9, 1}, {1, 10, 2}, {1, 24, 2}, {1, 25, 1}, {1, 26, 0}, {4, 3, 0}, {4, 4, 1}, {4, 5, 2},
            {9, 1, 1}, {8, 1, 0}, {10, 1, 2}, {25, 1, 1}, {26, 1, 0}, {24, 1, 2}, {1, 1, 0}, {9999, 9999, 2}, {1, 9999, 0},
            {9999, 1, 0}, {16, 16, 2}};
        Run x = of("far 0 1 16;");
        for (int[] d : due) {
            x.due("spots 0 " + d[0] + " 1 " + d[1], d[2]).due("spots 1 " + d[1] + " 0 " + d[0], d[2]);
        }
        of("far 0 1 1;").due("spots 0 2 1 6", 0).due("spots 0 1 1 4", 1).due("spots 0 3 1 7", 2).due("spots 0 3 1 3", 2);
        of("far 0 1 9999;").due("spots 0 9999 1 9999", 2).due("spots 0 2499 1 2499", 0).due("spots 0 2500 1 2500", 2);
        says(29, "BAD likewise");
        refusedSquares("spots");
        says(29, "STATE: the LENGTH is missing");
        of("far 0 2 5;far 1 2 5;").due("spots 0 5 1 5", STATE).due("spots 0 1 1 9999", STATE).due("spots 0 0 1 5", BAD)
                .due("spots 0 5 2 5", 2).call("tell 0 2 NONE").due("spots 0 5 2 5", STATE);
    }
}
