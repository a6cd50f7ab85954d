/** Boundary cases of promises 1 to 5: a new object, the tape, land, fault. */
final class TapeBounds extends Bounds {
    private static final long BLANKS = 0x2020202020202020L;

    static void all() {
        newObject();
        feeding();
        fullTape();
        ending();
        landing();
        places();
        toldStays();
        faults();
    }

    private static void newObject() {
        says(1, "Three PLACES, no LENGTHS");
        Run x = fresh().due("count 0", 3).due("count 1", 0);
        x.due("far 0 1", NONE).due("far 0 2", NONE).due("far 1 2", NONE).due("far 2 3", BAD).due("far -1 0", BAD);
        x.due("tell 2 3 5", BAD).due("pair 1 2", 2).due("pair 1 3", BAD);
        x.due("count 2", 0).due("count 3", 0).due("count 4", 0).due("fault", 0).due("torn", 0);
        says(1, "SHEETS have nothing");
        x.due("count 5", NONE);
        for (int k = 0; k < 4; k++) {
            x.due("lay " + k + " 0 1", -11).due("read " + k + " 0 0 1", 0).due("torn", 1);
        }
        x.due("lay 4 0 1", BAD).due("lay -1 0 1", BAD);
    }

    private static void feeding() {
        says(2, "Eight bytes come behind THE TAPE, the highest first");
        for (int place = 0; place < 8; place++) {
            int shift = 56 - 8 * place;
            long word = BLANKS & ~(0xFFL << shift) | 0xFFL << shift;
            fresh().due("feed " + word, 8).due("land", -10 - place).due("fault", 1);
            fresh().due("feed " + BLANKS, 8).due("feed " + word, 16).due("land", -18 - place).due("fault", 1);
        }
        fresh().due("feed " + Long.MIN_VALUE, 8).due("land", -10).due("feed " + Long.MAX_VALUE, 8).due("land", -10);
        says(2, "how many it has");
        Run x = fresh().due("feed 0", 8).due("feed -1", 16).due("end 3", 16).due("feed 0", 11).due("end 0", 11);
        x.due("feed 0", 8).due("land", -10).due("feed 0", 8);
    }

    private static void fullTape() {
        says(2, "FULL: more than 320");
        Run x = fresh();
        for (int i = 1; i <= 40; i++) {
            x.due("feed " + BLANKS, 8 * i);
        }
        x.due("feed 0", FULL).due("count 4", 320).due("feed -1", FULL).due("land", 0);
        for (int kept = 311; kept <= 320; kept++) {
            Run y = fresh().feed(" ".repeat(320)).due("end " + kept, 320);
            y.due("feed " + BLANKS, kept <= 312 ? kept + 8 : FULL).due("count 4", kept <= 312 ? kept + 8 : kept);
            y.due("land", 0);
        }
        terms("THE TAPE has 320 bytes, places from 0");
        fresh().feed(" ".repeat(319) + "!").due("land", -10 - 319).due("fault", 1);
        fresh().feed("!" + " ".repeat(319)).due("land", -10).due("fault", 1);
        fresh().feed(" ".repeat(311) + "places 7;").due("count 4", 320).due("feed 0", FULL).due("land", 1).due("count 0", 7);
    }

    private static void ending() {
        says(3, "THE TAPE keeps its first n bytes");
        fresh().feed("places 4;!").due("end 9", 10).due("land", 1).due("count 0", 4);
        fresh().feed("places 4;!").due("end 10", 10).due("land", -19);
        fresh().feed("places 4;!").due("end 8", 10).due("land", -18).due("fault", 2);
        fresh().feed("far 0 1 9999;").due("end 11", 13).feed(";").due("land", 1).due("far 0 1", 999);
        fresh().feed("!!!!!!!!").due("end 0", 8).due("count 4", 0).feed("places 2;").due("land", 1).due("count 0", 2);
        says(3, "how many it had");
        fresh().due("end 0", 0).due("feed 0", 8).due("end 8", 8).due("end 7", 8).due("end 7", 7).due("end 0", 7)
                .due("end 0", 0);
        says(3, "BAD (n above that, too)");
        Run x = fresh().due("end 1", BAD).due("end -1", BAD).due("end MIN", BAD).due("end MAX", BAD).due("end 0", 0);
        x.call("feed 0").due("end 9", BAD).due("end -1", BAD).due("count 4", 8).due("end 8", 8);
        x.due("end 5", 8).due("end 6", BAD).due("end 8", BAD).due("count 4", 5);
        Run full = fresh().feed(" ".repeat(320)).due("end 321", BAD).due("end 328", BAD).due("count 4", 320);
        full.due("end 320", 320).due("end 319", 320).due("end 320", BAD);
    }

    private static void landing() {
        says(4, "THE TAPE (empty then, by a FAULT, too) tells the land");
        fresh().feed("places 4;").due("land", 1).due("count 4", 0).due("end 1", BAD).due("land", 0).due("count 0", 3);
        fresh().feed("places 4;far").due("land", -22).due("count 4", 0).due("end 1", BAD).due("land", 0).due("fault", 0);
        fresh().feed("places 4;far 0 3").due("land", -26).feed("places 5;").due("count 4", 9).due("land", 1)
                .due("count 0", 5);
        says(4, "how many lines");
        fresh().due("land", 0).feed(" ").due("land", 0).feed("places 2;").due("land", 1).due("count 0", 2);
        fresh().feed("far 0 1 5;").due("land", 1);
        StringBuilder all = new StringBuilder();
        for (int b = 1; b < 7; b++) {
            for (int a = 0; a < b; a++) {
                all.append("far").append(a).append(' ').append(b).append(" 1;");
            }
        }
        fresh().feed(all + "places7;").due("land", 22).due("count 1", 21);
        says(4, "-10 less the place of its FAULT");
        String[] texts = {"!", " !", "places 4;!", " ".repeat(319) + ";", " ".repeat(314) + "places"};
        int[] at = {0, 1, 9, 319, 320};
        for (int i = 0; i < texts.length; i++) {
            fresh().feed(texts[i]).due("land", -10 - at[i]);
        }
        for (int place = 0; place < 320; place++) {
            fresh().feed(" ".repeat(place) + "!").due("land", -10 - place);
        }
    }

    private static void toldStays() {
        says(4, "that which was told stays");
        String[] texts = {"!", "places 2;far 0 1 8;oak", "places 2;places", "far 0 1 8;far 0 1", "far 0 1 8;far 0 6 9;",
            "places 8", "far 0 1 0"};
        for (String text : texts) {
            Run x = of("places 4;far 0 3 7;").call("part 5").call("keep 1").call("sheet 0 1 6").call("read 3 0 0 1");
            x.feed(text);
            Check.due("'" + text + "' is refused", Long.signum(x.ask("land")), -1);
            x.due("count 0", 4).due("far 0 3", 7).due("far 0 1", NONE).due("count 1", 1).due("road 1", 5);
            x.due("count 3", 1).due("back 1", 1).due("count 5", 6).due("torn", 1);
        }
    }

    private static void faults() {
        says(5, "The FAULT of the latest land(); 0");
        Run x = fresh().due("fault", 0);
        String[] texts = {"!", ";", "places 8;", "places 3;places", "far 0 6 5;", "places 6;", "!", ""};
        int[] due = {1, 2, 3, 4, 5, 0, 1, 0};
        for (int i = 0; i < texts.length; i++) {
            x.feed(texts[i]).call("land").due("fault", due[i]).due("fault", due[i]);
        }
        x.feed(";").call("land").feed("!").due("fault", 2).due("end 0", 1).due("tell 0 0 1", BAD).due("fault", 2);
        x.call("tell 0 1 1").call("part 1").call("sheet 0 0 1").call("clear").due("fault", 2);
        x.call("keep 0").call("back 0").due("fault", 2).due("land", 0).due("fault", 0);
    }

    private static void places() {
        terms("PLACES 0 to places less 1 (places 2 to 7; 3 at first)");
        fresh().due("count 0", 3).due("land", 0).due("count 0", 3);
        for (int n = 0; n <= 9; n++) {
            Run x = fresh().feed("places " + n + ";");
            if (n < 2 || n > 7) {
                x.due("land", -17).due("fault", 3).due("count 0", 3);
                continue;
            }
            x.due("land", 1).due("count 0", n).due("far 0 " + (n - 1), NONE).due("far 0 " + n, BAD).due("far -1 0", BAD);
            x.due("tell " + (n - 1) + " 0 9", NONE).due("tell 0 " + n + " 9", BAD).due("count 1", 1);
        }
        terms("Of each two unlike ones a LENGTH is told (its square, 1 to 9999), or none");
        fresh().due("tell 0 1 0", BAD).due("tell 0 1 1", NONE).due("tell 0 1 9999", 1).due("tell 0 1 10000", BAD)
                .due("far 0 1", 9999).due("tell 0 0 5", BAD).due("tell 0 1 NONE", 9999).due("far 0 1", NONE);
        of("far 0 1 1;far 0 2 9999;").due("far 0 1", 1).due("far 0 2", 9999).due("far 1 2", NONE);
        fresh().feed("far 0 1 0;").due("land", -18).due("fault", 3).feed("far 0 1 10000;").due("land", -18).due("fault", 1);
        terms("PAIRS are numbered: a and b (a less than b): b times (b less 1) by 2, and a");
        Run x = of("places 7;");
        int number = 0;
        for (int b = 1; b < 7; b++) {
            for (int a = 0; a < b; a++) {
                x.due("pair " + a + " " + b, number).due("pair " + b + " " + a, number);
                number++;
            }
        }
        x.due("pair 0 1", 0).due("pair 5 6", 20).due("pair 6 7", BAD);
    }
}
