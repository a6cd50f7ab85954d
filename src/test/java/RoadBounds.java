/** Boundary cases of promises 30 to 36: maps, part, clear, road, reaches, keep, back. */
final class RoadBounds extends Bounds {
    static void all() {
        maps();
        firstMap();
        mapsRefused();
        parts();
        roads();
        reaching();
        reachingRefused();
        images();
        backs();
    }

    private static void maps() {
        terms("A MAP of THE TABLE (PLACES, their LENGTHS) to that of an IMAGE (as many PLACES): each PLACE to another name, LENGTHS"
                + " as they are, none to none");
        int ways = 1;
        for (int n = 2; n <= 7; n++) {
            ways *= n;
            Run x = of("places " + n + ";").call("keep 0").due("maps 0 0", ways).call("tell 0 1 5").due("maps 0 0", 0);
            x.call("keep 1").due("maps 1 0", ways / (n * (n - 1) / 2)).call("tell 0 1 6").due("maps 1 0", 0);
            x.call("tell 0 1 4").due("maps 1 0", 0).call("tell 0 1 5").due("maps 1 0", ways / (n * (n - 1) / 2));
            x.call("tell 0 1 NONE").due("maps 1 0", 0).due("maps 0 0", ways);
        }
        // As many LENGTHS of each kind, but one table has them in a row and the other one around one PLACE.
        Run row = of("places 4;far 0 1 5;far 1 2 5;far 2 3 5;").call("keep 0").due("maps 0 0", 2);
        row.call("tell 2 3 NONE").call("tell 1 3 5").due("maps 0 0", 0).due("maps 0 13", NONE);
        says(30, "MAPS to IMAGE k: how many (what 0)");
        alike(7, 9999).call("keep 1").due("maps 1 0", 5040).call("tell 5 6 9998").due("maps 1 0", 0).call("keep 0")
                .due("maps 0 0", 240).due("maps 1 0", 0);
        three(1, 2, 3).call("keep 0").due("maps 0 0", 1);
    }

    private static void firstMap() {
        says(30, "10 and p: what PLACE p is called there by the first one (by the names of PLACE 0, then 1, ..)");
        Run bare = of("places 7;").call("keep 0");
        for (int p = 0; p < 7; p++) {
            bare.due("maps 0 1" + p, p);
        }
        Run x = of("places 4;far 2 3 5;").call("keep 1").call("tell 2 3 NONE").call("tell 0 1 5");
        x.due("maps 1 10", 2).due("maps 1 11", 3).due("maps 1 12", 0).due("maps 1 13", 1);
        Run y = three(1, 2, 3).call("keep 0").call("tell 0 1 3").call("tell 0 2 2").call("tell 1 2 1");
        y.due("maps 0 0", 1).due("maps 0 10", 2).due("maps 0 11", 1).due("maps 0 12", 0);
        of("places 2;far 0 1 5;").call("keep 0").due("maps 0 0", 2).due("maps 0 10", 0).due("maps 0 11", 1);
    }

    private static void mapsRefused() {
        says(30, "BAD");
        for (int n = 2; n <= 7; n++) {
            Run x = of("places " + n + ";").call("keep 0").call("keep 1");
            x.due("maps -1 0", BAD).due("maps 2 0", BAD).due("maps MIN 0", BAD).due("maps MAX 0", BAD).due("maps 0 -1", BAD);
            x.due("maps 0 1", BAD).due("maps 0 9", BAD).due("maps 0 10", 0).due("maps 1 " + (9 + n), n - 1);
            x.due("maps 0 " + (10 + n), BAD);
            for (int what : FAR_OFF) {
                x.due("maps 0 " + what, BAD);
            }
        }
        says(30, "STATE: there is none");
        fresh().due("maps 0 0", STATE).due("maps 1 0", STATE).due("maps 0 10", STATE).due("maps 1 12", STATE)
                .due("maps 1 13", BAD).due("maps 1 9", BAD).due("maps 2 0", BAD).call("keep 1").due("maps 0 0", STATE)
                .due("maps 1 0", 6).call("land").due("maps 1 0", STATE).due("maps 1 10", STATE);
        says(30, "NONE: no MAP");
        three(1, 1, 1).call("keep 0").call("tell 0 1 2").due("maps 0 0", 0).due("maps 0 10", NONE).due("maps 0 12", NONE)
                .due("maps 0 13", BAD).due("maps 1 10", STATE).call("tell 0 1 1").due("maps 0 12", 2);
    }

    private static void parts() {
        terms("A ROAD has up to 8 parts, whole LENGTHS 1 to 99, and can bend at each end of them");
        Run x = fresh().due("part 0", BAD).due("part 1", 1).due("part 99", 2).due("part 100", BAD).due("road 1", 100)
                .due("road 0", 98);
        for (int i = 3; i <= 8; i++) {
            x.due("part 99", i);
        }
        x.due("part 1", FULL).due("count 2", 8).due("road 1", 1 + 7 * 99);
        says(31, "A part of the ROAD more: how many it has");
        fresh().due("part 5", 1).due("part 5", 2).due("clear", 2).due("part 5", 1);
        says(31, "BAD");
        fresh().due("part 0", BAD).due("part -1", BAD).due("part 100", BAD).due("part MIN", BAD).due("part MAX", BAD)
                .due("part -4", BAD).due("count 2", 0).due("part 1", 1);
        says(31, "FULL");
        Run full = fresh();
        for (int i = 1; i <= 8; i++) {
            full.due("part 1", i);
        }
        full.due("part 1", FULL).due("part 99", FULL).due("part 0", BAD).due("part 100", BAD).due("road 1", 8);
        full.due("clear", 8).due("part 1", 1);
        says(32, "The ROAD is gone: how many parts it had");
        fresh().due("clear", 0).due("part 7", 1).due("clear", 1).due("count 2", 0).due("road 0", STATE).due("clear", 0)
                .due("part 3", 1).due("road 1", 3);
        road(7, 9, 99).due("clear", 3).due("part 3", 1).due("road 0", 3).due("road 1", 3).due("part 4", 2).due("road 1", 7);
        road(7).call("keep 0").call("part 9").call("part 99").due("back 0", 0).due("road 0", 7).due("road 1", 7);
    }

    private static Run road(int... parts) {
        Run x = fresh();
        for (int l : parts) {
            x.call("part " + l);
        }
        return x;
    }

    private static void roads() {
        says(33, "How far its end can be from its beginning: the least (what 0), the greatest (1)");
        road(1).due("road 0", 1).due("road 1", 1);
        road(99).due("road 0", 99).due("road 1", 99);
        road(5, 5).due("road 0", 0).due("road 1", 10);
        road(5, 6).due("road 0", 1).due("road 1", 11);
        road(3, 9, 5).due("road 0", 1).due("road 1", 17);
        road(3, 8, 5).due("road 0", 0).due("road 1", 16);
        road(3, 7, 5).due("road 0", 0).due("road 1", 15);
        road(1, 1, 1, 1, 1, 1, 1, 99).due("road 0", 92).due("road 1", 106);
        road(99, 1, 1, 1, 1, 1, 1, 1).due("road 0", 92).due("road 1", 106);
        road(99, 99, 99, 99, 99, 99, 99, 99).due("road 0", 0).due("road 1", 792);
        says(33, "BAD");
        road(5).due("road -1", BAD).due("road 2", BAD).due("road MIN", BAD).due("road MAX", BAD);
        fresh().due("road -1", BAD).due("road 2", BAD);
        says(33, "STATE: no parts");
        fresh().due("road 0", STATE).due("road 1", STATE).call("part 5").due("road 0", 5).call("clear").due("road 0", STATE);
    }

    private static void reaching() {
        says(34, "Whether the ROAD can go from one PLACE to another one (1, 0)");
        int[][] due = {{3, 0}, {4, 1}, {5, 1}, {63, 1}, {64, 1}, {65, 0}};
        Run x = road(5, 3);
        for (int[] d : due) {
            x.call("tell 0 1 " + d[0]).due("reaches 0 1", d[1]).due("reaches 1 0", d[1]);
        }
        int[][] straight = {{8, 0}, {9, 1}, {10, 0}};
        Run y = road(3);
        for (int[] d : straight) {
            y.call("tell 0 2 " + d[0]).due("reaches 0 2", d[1]);
        }
        road(4, 4).call("tell 0 1 1").due("reaches 0 1", 1).call("tell 0 1 64").due("reaches 0 1", 1).call("tell 0 1 65")
                .due("reaches 0 1", 0);
        road(99).call("tell 0 1 9999").due("reaches 0 1", 0).call("tell 0 1 9801").due("reaches 0 1", 1).call("tell 0 1 9802")
                .due("reaches 0 1", 0).call("part 1").due("reaches 0 1", 1).call("tell 0 1 9999").due("reaches 0 1", 1);
        road(99, 99, 99, 99, 99, 99, 99, 99).call("tell 0 1 1").due("reaches 0 1", 1).call("tell 0 1 9999").due("reaches 0 1", 1);
    }

    private static void reachingRefused() {
        says(34, "BAD");
        String[] bad = {"0 0", "2 2", "0 3", "3 0", "-1 0", "0 -1", "MIN 0", "0 MAX"};
        for (String two : bad) {
            road(5).due("reaches " + two, BAD);
            fresh().due("reaches " + two, BAD);
        }
        says(34, "STATE: no parts");
        three(1, 0, 1).due("reaches 0 1", STATE).due("reaches 0 2", STATE).due("reaches 0 3", BAD).call("part 1")
                .due("reaches 0 1", 1).call("clear").due("reaches 0 1", STATE);
        says(34, "NONE: no LENGTH");
        three(1, 0, 1).call("part 1").due("reaches 0 2", NONE).due("reaches 2 0", NONE).due("reaches 0 0", BAD)
                .call("tell 0 2 1").due("reaches 0 2", 1).call("tell 0 2 NONE").due("reaches 0 2", NONE);
    }

    private static void images() {
        says(35, "IMAGE k (0, 1) is THE TABLE and the ROAD: whether there was one (1, 0)");
        Run x = of("places 4;far 0 3 5;").call("part 7").due("keep 0", 0).due("keep 0", 1).due("keep 1", 0).due("keep 1", 1);
        x.due("count 3", 2).call("tell 0 3 6").call("part 8").call("tell 1 2 9").due("back 0", 1).due("far 0 3", 5);
        x.due("road 1", 7).due("count 2", 1).due("far 1 2", NONE);
        // The other IMAGE is not touched, and a later one stands in place of the first.
        Run y = fresh().call("tell 0 1 5").due("keep 0", 0).call("tell 0 1 6").call("part 3").due("keep 1", 0);
        y.call("tell 0 1 7").due("keep 0", 1).due("back 1", 1).due("far 0 1", 6).due("count 2", 1).due("back 0", 1);
        y.due("far 0 1", 7).due("count 3", 2);
        y.due("land", 0).due("keep 0", 0).due("keep 1", 0);
        Run z = fresh().due("keep 0", 0).call("part 3").call("tell 0 1 5").due("keep 1", 0).due("back 0", 0).due("count 2", 0);
        z.due("keep 0", 1).due("back 1", 1).due("count 2", 1).due("keep 1", 1).due("back 0", 0).due("road 0", STATE);
        says(35, "BAD");
        fresh().due("keep -1", BAD).due("keep 2", BAD).due("keep MIN", BAD).due("keep MAX", BAD).due("count 3", 0)
                .due("keep 0", 0).due("keep 1", 0);
    }

    private static void backs() {
        says(36, "All is as IMAGE k: how many LENGTHS are told");
        fresh().call("keep 0").call("tell 0 1 5").call("part 5").due("back 0", 0).due("count 1", 0).due("count 2", 0)
                .due("road 0", STATE).due("far 0 1", NONE).due("back 0", 0);
        Run all = alike(7, 5).call("keep 1");
        for (int i = 0; i < 8; i++) {
            all.call("part 9");
        }
        all.call("tell 5 6 NONE").due("back 1", 21).due("far 5 6", 5).due("count 2", 0).due("count 0", 7);
        Run road = road(1, 2, 3, 4, 5, 6, 7, 8).call("keep 0").call("clear").call("part 99").due("back 0", 0).due("count 2", 8);
        road.due("road 1", 36).due("road 0", 0).due("part 1", FULL).due("clear", 8).due("back 0", 0).due("road 1", 36);
        // An IMAGE stays behind back(); THE TAPE, the SHEETS and the FAULTS are none of it.
        Run rest = fresh().call("keep 0").call("sheet 0 0 3").call("read 0 1 0 1").feed("oak").call("land").feed("!!");
        rest.due("back 0", 0).due("count 3", 1).due("count 4", 2).due("count 5", 3).due("torn", 3).due("fault", 2);
        says(36, "BAD");
        fresh().due("back -1", BAD).due("back 2", BAD).due("back MIN", BAD).due("back MAX", BAD);
        fresh().call("keep 0").call("keep 1").due("back 2", BAD).due("back -1", BAD).due("back 1", 0);
        says(36, "STATE: there is none");
        fresh().due("back 0", STATE).due("back 1", STATE).call("keep 0").due("back 0", 0).due("back 1", STATE).call("tell 0 1 5")
                .call("part 5").due("back 1", STATE).due("far 0 1", 5).due("count 2", 1).due("land", 0).due("back 0", STATE);
    }
}
