/** Boundary cases of promises 23 to 25: drawings, spare, base. */
final class DrawingsBounds extends Bounds {
    /** On the base 0, 1 (16 long by its square): 2 is (1, 2) and 3 is (3, 1), on one side or on both; 23 is not told. */
    private static final String TWO = "places 5;far 0 1 16;far 0 2 5;far 1 2 13;far 0 3 10;far 1 3 2;";

    static void all() {
        laid();
        asBySixth();
        onTheLine();
        howMany();
        groups();
        toBePaced();
        sides();
        refused();
        spares();
        sparesRefused();
        bases();
    }

    private static void drawings(Run x, int many, int laid, int groups) {
        x.due("drawings 0 1 0", many).due("drawings 0 1 1", laid).due("drawings 0 1 2", groups);
        x.due("drawings 1 0 0", many).due("drawings 1 0 1", laid).due("drawings 1 0 2", groups);
    }

    private static void laid() {
        terms("DRAWINGS on a base a, b: LAID are PLACES that have LENGTHS to both told (three that CAN BE)");
        drawings(three(1, 1, 1), 1, 4, 1);
        drawings(three(1, 3, 7), 1, 4, 1);
        drawings(three(1, 1, 4), 1, 4, 0);
        drawings(three(1, 2, 6), 1, 0, 0);
        drawings(three(1, 1, 0), 1, 0, 0);
        drawings(three(1, 0, 1), 1, 0, 0);
        drawings(of("places 2;far 0 1 1;"), 1, 0, 0);
        Run x = of("places 7;far 5 6 1;far 0 5 1;far 0 6 1;far 4 5 1;far 4 6 1;").due("drawings 5 6 1", 17);
        x.due("drawings 6 5 0", 2).due("drawings 0 5 1", 64);
        says(23, "1 LAID (bits)");
        fan(5).due("drawings 0 1 1", 124);
        fan(0).due("drawings 0 1 1", 0);
    }

    /** A base of 1 and so many PLACES, each 1 from both of its ends. */
    private static Run fan(int many) {
        Run x = of("places " + Math.max(2, many + 2) + ";far 0 1 1;");
        for (int p = 2; p < many + 2; p++) {
            x.call("tell 0 " + p + " 1").call("tell 1 " + p + " 1");
        }
        return x;
    }

    private static void asBySixth() {
        terms("Each two of them that have a LENGTH told must be as by THE SIXTH with the base: on one side, on both (SAME, OTHER),");
        drawings(of(TWO), 2, 12, 2);
        for (int v = 1; v <= 16; v++) {
            Run x = of(TWO).call("tell 2 3 " + v);
            drawings(x, v == 5 || v == 13 ? 1 : 0, 12, 1);
            x.due("drawings 0 1 12", v == 5 || v == 13 ? 1 : NONE).due("drawings 0 1 13", v == 5 ? 1 : v == 13 ? 2 : NONE);
        }
        // Both in one spot on one side: only the other LENGTH can be told.
        fan(2).call("tell 2 3 2").due("drawings 0 1 0", 0).call("tell 2 3 3").due("drawings 0 1 0", 1).due("drawings 0 1 13", 2)
                .call("tell 2 3 4").due("drawings 0 1 0", 0).call("tell 2 3 1").due("drawings 0 1 0", 0);
        // M is no square: no whole LENGTH is so.
        for (int v = 1; v <= 9; v++) {
            of("places 4;far 0 1 4;far 0 2 4;far 1 2 4;far 0 3 5;far 1 3 5;far 2 3 " + v + ";").due("drawings 0 1 0", 0);
        }
        // A LENGTH to a PLACE that is not LAID is not looked at.
        of(TWO + "far 2 4 9999;far 3 4 1;").due("drawings 0 1 0", 2).due("drawings 0 1 2", 2);
    }

    private static void onTheLine() {
        terms("or either way (if M is 0)");
        for (int v = 3; v <= 5; v++) {
            // 2 is on the line at (2, 0), 3 is (2, 2).
            Run x = of("places 4;far 0 1 16;far 0 2 4;far 1 2 4;far 0 3 8;far 1 3 8;far 2 3 " + v + ";");
            drawings(x, v == 4 ? 1 : 0, 12, 1);
            x.due("drawings 0 1 12", v == 4 ? 0 : NONE).due("drawings 0 1 13", v == 4 ? 1 : NONE);
            // Both are on the line, at 2 and 6; then one beyond each end.
            Run y = of("places 4;far 0 1 16;far 0 2 4;far 1 2 4;far 0 3 36;far 1 3 4;far 2 3 " + (v + 12) + ";");
            drawings(y, v == 4 ? 1 : 0, 12, 0);
            Run z = of("places 4;far 0 1 16;far 0 2 1;far 1 2 25;far 0 3 36;far 1 3 4;far 2 3 " + (v + 45) + ";");
            drawings(z, v == 4 ? 1 : 0, 12, 0);
        }
        // One on the line holds two others on no side.
        of("places 5;far 0 1 16;far 0 2 4;far 1 2 4;far 0 3 8;far 1 3 8;far 0 4 5;far 1 4 13;far 2 3 4;far 2 4 5;")
                .due("drawings 0 1 0", 2).due("drawings 0 1 2", 2).due("drawings 0 1 3", 1);
    }

    private static void howMany() {
        terms("DRAWINGS are ways to put each LAID PLACE that is not on the line of the base on a side so that all told LENGTHS"
                + " between LAID ones are so; twins in a mirror are one");
        int[] ways = {1, 1, 2, 4, 8, 16};
        for (int many = 0; many <= 5; many++) {
            fan(many).due("drawings 0 1 0", ways[many]).due("drawings 0 1 2", many).due("drawings 0 1 3", Math.max(0, many - 1));
        }
        terms("(None, if a LENGTH can not be so either way.)");
        fan(5).call("tell 5 6 2").due("drawings 0 1 0", 0).call("tell 5 6 3").due("drawings 0 1 0", 8);
        fan(5).call("tell 2 3 4").due("drawings 0 1 0", 0).due("drawings 0 1 1", 124).due("drawings 0 1 2", 4);
        // Three that are each over against the others: each LENGTH could be so, but not all of them.
        fan(3).call("tell 2 3 3").call("tell 3 4 3").due("drawings 0 1 0", 1).call("tell 2 4 3").due("drawings 0 1 0", 0)
                .due("drawings 0 1 2", 1).due("drawings 0 1 3", NONE).due("drawings 0 1 12", NONE);
        says(23, "DRAWINGS: 0 how many");
        fan(5).due("drawings 0 1 0", 16);
        fan(0).due("drawings 0 1 0", 1);
    }

    private static void groups() {
        terms("GROUPS: LAID PLACES off the line that hang together by told LENGTHS");
        Run x = fan(5);
        int[][] ties = {{6, 4}, {4, 2}, {5, 3}, {6, 5}};
        for (int i = 0; i < ties.length; i++) {
            x.due("drawings 0 1 2", 5 - i).call("tell " + ties[i][0] + " " + ties[i][1] + " 3");
        }
        x.due("drawings 0 1 2", 1).due("drawings 0 1 0", 1);
        says(23, "2 GROUPS");
        fan(0).due("drawings 0 1 2", 0);
        three(1, 1, 4).due("drawings 0 1 2", 0);
        fan(1).due("drawings 0 1 2", 1);
        fan(5).due("drawings 0 1 2", 5);
    }

    private static void toBePaced() {
        says(23, "3 how many LENGTHS between LAID ones must still be told at the least so that there is one (GROUPS less 1, 0 at"
                + " least)");
        fan(0).due("drawings 0 1 3", 0);
        three(1, 1, 4).due("drawings 0 1 3", 0);
        fan(1).due("drawings 0 1 3", 0);
        fan(2).due("drawings 0 1 3", 1).call("tell 2 3 3").due("drawings 0 1 3", 0).call("tell 2 3 4").due("drawings 0 1 3", NONE);
        fan(5).due("drawings 0 1 3", 4);
    }

    private static void sides() {
        says(23, "10 and k: the side of PLACE k in the first DRAWING (0 on the line, 1 where the least PLACE of its GROUP is, 2 over"
                + " against it)");
        three(1, 1, 4).due("drawings 0 1 12", 0);
        three(1, 3, 7).due("drawings 0 1 12", 1);
        Run x = fan(5);
        for (int k = 2; k <= 6; k++) {
            x.due("drawings 0 1 1" + k, 1);
        }
        x.call("tell 2 6 3").call("tell 3 5 3").call("tell 4 5 3");
        int[] due = {NONE, NONE, 1, 1, 1, 2, 2};
        for (int k = 0; k <= 6; k++) {
            x.due("drawings 0 1 1" + k, due[k]);
        }
        Run y = of("places 7;far 5 6 1;far 0 5 1;far 0 6 1;far 4 5 1;far 4 6 1;far 0 4 3;");
        y.due("drawings 5 6 10", 1).due("drawings 5 6 14", 2).due("drawings 5 6 15", NONE).due("drawings 5 6 16", NONE);
    }

    private static void refused() {
        says(23, "BAD: also alike");
        for (int n = 2; n <= 7; n++) {
            Run x = of("places " + n + ";far 0 1 1;");
            x.due("drawings 0 1 -1", BAD).due("drawings 0 1 0", 1).due("drawings 0 1 3", 0).due("drawings 0 1 4", BAD);
            x.due("drawings 0 1 9", BAD).due("drawings 0 1 10", NONE).due("drawings 0 1 " + (9 + n), NONE);
            x.due("drawings 0 1 " + (10 + n), BAD).due("drawings 0 0 0", BAD).due("drawings 0 " + n + " 0", BAD);
            x.due("drawings -1 0 0", BAD);
            for (int what : FAR_OFF) {
                x.due("drawings 0 1 " + what, BAD);
            }
        }
        says(23, "STATE: the LENGTH of the base is missing");
        for (int what = 0; what <= 12; what++) {
            three(0, 5, 5).due("drawings 0 1 " + what, what <= 3 || what >= 10 ? STATE : BAD);
        }
        three(0, 5, 5).due("drawings 0 0 0", BAD).due("drawings 0 1 13", BAD).due("drawings 0 2 0", 1);
        says(23, "NONE (of 3, 10 and k): there is no DRAWING, k is not LAID");
        Run none = of(TWO + "far 2 3 4;");
        drawings(none, 0, 12, 1);
        none.due("drawings 0 1 3", NONE).due("drawings 0 1 12", NONE).due("drawings 0 1 13", NONE).due("drawings 0 1 14", NONE);
        Run some = of(TWO).due("drawings 0 1 3", 1).due("drawings 0 1 10", NONE).due("drawings 0 1 11", NONE);
        some.due("drawings 0 1 12", 1).due("drawings 0 1 14", NONE).call("tell 0 4 5").due("drawings 0 1 14", NONE);
        some.call("tell 1 4 100").due("drawings 0 1 14", NONE).call("tell 1 4 5").due("drawings 0 1 14", 1);
    }

    private static void spares() {
        says(24, "Whether there are as many DRAWINGS without the LENGTH of c and d (1, 0)");
        of(TWO + "far 2 3 5;").due("spare 0 1 2 3", 0).due("spare 1 0 3 2", 0);
        of(TWO + "far 2 3 4;").due("spare 0 1 2 3", 0);
        Run ring = fan(4).call("tell 2 3 3").call("tell 3 4 3").call("tell 4 5 3").due("spare 0 1 4 5", 0);
        ring.call("tell 2 5 3").due("spare 0 1 4 5", 1).due("spare 0 1 2 5", 1);
        // Two that are false: without one there is still no drawing.
        fan(4).call("tell 2 3 4").call("tell 4 5 4").due("drawings 0 1 0", 0).due("spare 0 1 2 3", 1).due("spare 0 1 4 5", 1);
        // One on the line ties nothing, but may be false.
        Run line = of("places 4;far 0 1 16;far 0 2 4;far 1 2 4;far 0 3 8;far 1 3 8;far 2 3 4;").due("spare 0 1 2 3", 1);
        line.call("tell 2 3 5").due("spare 0 1 2 3", 0).due("far 2 3", 5);
    }

    private static void sparesRefused() {
        says(24, "BAD");
        Run x = of(TWO + "far 2 3 5;");
        String[] bad = {"0 0 2 3", "0 1 2 2", "5 1 2 3", "0 5 2 3", "0 1 5 3", "0 1 2 5", "-1 1 2 3", "0 -1 2 3", "0 1 -1 3",
            "0 1 2 -1"};
        for (String four : bad) {
            x.due("spare " + four, BAD);
        }
        x.due("spare 0 1 2 3", 0);
        says(24, "STATE likewise");
        x.due("spare 2 4 0 1", STATE).due("spare 0 4 2 3", STATE).due("spare 0 4 2 2", BAD).due("spare 3 4 3 4", STATE);
        x.call("tell 0 1 NONE").due("spare 0 1 2 3", STATE);
        says(24, "NONE: c or d is not LAID, none is told");
        Run y = of(TWO + "far 2 4 5;far 3 4 5;far 0 4 5;");
        y.due("spare 0 1 2 3", NONE).due("spare 0 1 2 4", NONE).due("spare 0 1 4 2", NONE).due("spare 0 1 0 2", NONE);
        y.due("spare 0 1 2 1", NONE).due("spare 0 1 0 1", NONE).call("tell 1 4 100").due("spare 0 1 2 4", NONE);
        y.call("tell 1 4 13").due("spare 0 1 2 4", 0).call("tell 2 3 5").due("spare 0 1 3 2", 1);
    }

    private static void bases() {
        says(25, "Of bases that have a DRAWING the one with the most LAID PLACES, of several that with the fewest DRAWINGS, of these"
                + " the least PAIR");
        of("places 2;far 0 1 1;").due("base", 0);
        of("places 7;far 5 6 1;").due("base", 20);
        of("places 7;far 5 6 1;far 0 6 1;").due("base", 15);
        of("places 7;far 4 5 1;far 4 6 1;far 5 6 1;far 0 1 1;").due("base", 14);
        // 0 1 has two LAID and two drawings, each other one LAID and one drawing.
        fan(2).due("base", 0);
        of("places 5;far 3 4 1;far 2 3 1;far 2 4 1;far 1 3 1;far 1 4 1;").due("base", 9);
        // Six bases with two LAID and one drawing each: the least PAIR.
        fan(2).call("tell 2 3 3").due("base", 0);
        fewestDrawings();
        says(25, "NONE: none has");
        fresh().due("base", NONE).call("tell 1 2 5").due("base", 2).call("tell 1 2 NONE").due("base", NONE);
        alike(4, 1).due("base", NONE).call("tell 2 3 NONE").due("base", 0);
        of("places 5;far 0 1 1;far 0 2 1;far 1 2 1;far 0 3 1;far 1 3 1;far 2 3 1;far 0 4 7;").due("base", 6);
    }

    /** As many LAID on 0 1 with two drawings as on 2 4 and others with one: a greater PAIR is better. */
    private static void fewestDrawings() {
        Run x = of("places 7;far 0 1 1;far 0 2 1;far 1 2 1;far 0 3 1;far 1 3 1;");
        x.due("base", 0).call("tell 4 5 1").call("tell 2 4 1").call("tell 2 5 1").call("tell 4 6 1").call("tell 5 6 1");
        x.due("drawings 4 5 0", 2).due("drawings 0 1 0", 2).due("base", 0);
        x.call("tell 2 6 3").due("drawings 4 5 0", 1).due("drawings 2 4 0", 1).due("drawings 2 4 1", 96).due("base", 8);
    }
}
