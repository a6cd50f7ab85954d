/** Boundary cases of the text: its TOKENS, its lines, its FAULTS and what a text that is taken puts in place. */
final class TokenBounds extends Bounds {
    static void all() {
        tokens();
        blanks();
        everyByte();
        names();
        numbers();
        grammar();
        places();
        firstMet();
        noToken();
        notThere();
        outOfBounds();
        secondTime();
        noPlace();
        taken();
    }

    private static void taken(String text, int lines) {
        fresh().feed(text).due("land", lines).due("fault", 0);
    }

    private static void refused(String text, int fault, int place) {
        Run x = fresh().feed(text);
        Check.due("land of '" + text + "'", x.ask("land"), -10 - place);
        Check.due("fault of '" + text + "'", x.ask("fault"), fault);
    }

    private static void tokens() {
        terms("TOKENS, each as long as may be");
        refused("placesfar 0 1 5;", 2, 0);
        refused("far 01 5;", 2, 8);
        refused("far 0 15;", 3, 6);
        refused("places 23;", 3, 7);
        refused("places 12345;", 1, 7);
        taken("places 0002;", 1);
        taken("far 0001 0002 0003;", 1);
    }

    private static void blanks() {
        terms("any number of blanks (32) ahead of, between, behind them");
        taken("", 0);
        taken(" ".repeat(320), 0);
        taken(" ".repeat(311) + "places 3;", 1);
        taken("places 3;" + " ".repeat(311), 1);
        taken("places" + " ".repeat(312) + "3;", 1);
        taken("places 3" + " ".repeat(311) + ";", 1);
        taken("far  0   1    5     ;      ", 1);
        int[] others = {0, 9, 10, 13, 31, 33, 160};
        for (int other : others) {
            refused((char) other + "places 3;", 1, 0);
            refused("places" + (char) other + "3;", 1, 6);
            refused("places 3;" + (char) other, 1, 9);
        }
        terms("(one at least between two NAMES, between two NUMBERS; else none is needed)");
        taken("places4;far0 1 5;far0 2 6;", 3);
        refused("placesfar", 2, 0);
        refused("places far", 2, 7);
        refused("far0 1 5;far01 5;", 2, 16);
        refused("places4far0 1 5;", 2, 7);
        refused("places4;far0 1far", 2, 14);
        taken("far 0 1 5 ; far 0 2 5 ;", 2);
    }

    /** What each of the 256 bytes is alone, where a NUMBER, a sign and where a line or the end is awaited. */
    private static void everyByte() {
        terms("the sign ; (every other byte is no TOKEN)");
        for (int c = 0; c < 256; c++) {
            boolean name = c >= 'a' && c <= 'z';
            boolean number = c >= '0' && c <= '9';
            if (c == ' ') {
                taken(" ", 0);
                continue;
            }
            refused("" + (char) c, name || number || c == ';' ? 2 : 1, 0);
            if (!number) {
                refused("places " + (char) c, name || c == ';' ? 2 : 1, 7);
            }
            if (c == ';') {
                taken("places 3 " + (char) c, 1);
            } else {
                refused("places 3 " + (char) c, name || number ? 2 : 1, 9);
            }
            refused("places 3;" + (char) c, name || number || c == ';' ? 2 : 1, 9);
        }
    }

    private static void names() {
        terms("NAMES (a .. z)");
        refused("`", 1, 0);
        refused("a", 2, 0);
        refused("z", 2, 0);
        refused("{", 1, 0);
        refused("A", 1, 0);
        refused("Z", 1, 0);
        refused("fa", 2, 0);
        refused("farr 0 1 5;", 2, 0);
        refused("place 3;", 2, 0);
        refused("placess 3;", 2, 0);
        String[] words = {"far", "places"};
        for (String word : words) {
            for (int i = 0; i < word.length(); i++) {
                refused(word.substring(0, i) + "x" + word.substring(i + 1) + " 3", 2, 0);
                refused(word.substring(0, i) + word.substring(i + 1) + " 3", 2, 0);
            }
        }
        refused("far{", 1, 3);
        refused("places`", 1, 6);
    }

    private static void numbers() {
        terms("NUMBERS (1 to 4 figures)");
        taken("places 2;", 1);
        taken("places 02;", 1);
        taken("places 002;", 1);
        taken("places 0002;", 1);
        refused("places 00002;", 1, 7);
        refused("places /", 1, 7);
        refused("places :", 1, 7);
        refused("places 1", 3, 7);
        refused("places 9", 3, 7);
        refused("places 0", 3, 7);
        of("far 0 1 9999;far 0 2 1000;far 1 2 0999;").due("far 0 1", 9999).due("far 0 2", 1000).due("far 1 2", 999);
        of("far 0 1 1234;far 0 2 0560;far 1 2 7089;").due("far 0 1", 1234).due("far 0 2", 560).due("far 1 2", 7089);
    }

    /** In place of each TOKEN of a line every other kind of TOKEN, and the end. */
    private static void grammar() {
        terms("land: { line } line: places N ; | far N N N ;");
        taken("", 0);
        taken("places 3;", 1);
        taken("far 0 1 5;", 1);
        taken("places 3;far 0 1 5;far 0 2 6;", 3);
        taken("far 0 1 5;far 0 2 6;places 3;", 3);
        String[][] lines = {{"places", "3", ";"}, {"far", "0", "1", "5", ";"}};
        String[] others = {"oak", "places", "far", "3", ";"};
        for (String[] line : lines) {
            StringBuilder ahead = new StringBuilder();
            for (int i = 0; i < line.length; i++) {
                if (i > 0) {
                    refused(ahead + "", 2, ahead.length());
                }
                for (String other : others) {
                    boolean isDue = kind(other) == kind(line[i]) && !(kind(other) == 'a' && other.equals("oak"));
                    if (!isDue) {
                        refused(ahead + other, 2, ahead.length());
                    }
                }
                ahead.append(line[i]).append(' ');
            }
        }
    }

    private static char kind(String token) {
        char first = token.charAt(0);
        return Character.isDigit(first) ? '0' : Character.isLetter(first) ? 'a' : first;
    }

    private static void places() {
        terms("far: two PLACES (0 to 6), the square of their LENGTH");
        of("places 7;far 0 6 1;far 5 0 9999;").due("far 6 0", 1).due("far 0 5", 9999);
        refused("places 7;far 7 0 1;", 3, 13);
        refused("places 7;far 0 7 1;", 3, 15);
        refused("places 7;far 0 6 0;", 3, 17);
        refused("places 7;far 0 6 10000;", 1, 17);
        refused("far 9999 0 1;", 3, 4);
    }

    private static void firstMet() {
        terms("FAULTS, the first met as it is read (a TOKEN is read when the one before has been taken)");
        refused("oak !", 2, 0);
        refused("! oak", 1, 0);
        refused("12345 !", 1, 0);
        refused("places 8!", 3, 7);
        refused("places !8", 1, 7);
        refused("places 8 12345", 3, 7);
        refused("places 3 12345", 1, 9);
        refused("places 3;places!", 4, 9);
        refused("places 3;places 12345", 4, 9);
        refused("places 3 places", 2, 9);
        refused("far 7!", 3, 4);
        refused("far 7 7 0", 3, 4);
        refused("far 0 0!", 3, 6);
        refused("far 0 0 12345", 3, 6);
        refused("far 0 1 5;far 1 0!", 4, 16);
        refused("far 0 1 5;far 1 0 0", 4, 16);
        refused("far 0 1 5;far 1 1", 3, 16);
        refused("far 0 1 5;far 1 7", 3, 16);
        refused("far 0 1 0!", 3, 8);
        refused("far 0 6 5;!", 1, 10);
        refused("far 0 6 5;far 0 6", 4, 16);
        refused("far 0 6 5;far 0 1 5", 2, 19);
        refused("far 0 6 5;places 8;", 3, 17);
    }

    private static void noToken() {
        terms("1 no TOKEN, a NUMBER that is too long (its first byte)");
        refused("  !", 1, 2);
        refused("places 3;  !!", 1, 11);
        refused("far 0 1 !5;", 1, 8);
        refused("far 0 1 5!;", 1, 9);
        taken("far 0 1 1234;", 1);
        refused("far 0 1 12345;", 1, 8);
        refused("far 0 1 00005;", 1, 8);
        refused("far 0 1 123456789;", 1, 8);
        refused("far 00000 1 5;", 1, 4);
        refused("12345", 1, 0);
        refused("places 3;12345", 1, 9);
        refused("1".repeat(320), 1, 0);
        refused("far 0 1 " + "0".repeat(312), 1, 8);
        refused("a".repeat(320), 2, 0);
    }

    private static void notThere() {
        terms("2 a TOKEN that can not stand there (a NAME that begins no line; or the end: the length)");
        refused("oak", 2, 0);
        refused("places 3;oak", 2, 9);
        refused("places 3; oak", 2, 10);
        refused("1234", 2, 0);
        refused(";", 2, 0);
        refused("places 3;;", 2, 9);
        refused("places", 2, 6);
        refused("places ", 2, 7);
        refused("places    ", 2, 10);
        refused("places 3", 2, 8);
        refused("places 3  ", 2, 10);
        refused("far 0 1 5", 2, 9);
        refused("far 0 1 5;places 3 ", 2, 19);
        refused(" ".repeat(317) + "far", 2, 320);
        refused("far" + " ".repeat(317), 2, 320);
    }

    private static void outOfBounds() {
        terms("3 a NUMBER out of its bounds; a PLACE and itself (the second one)");
        int[] bad = {0, 1, 8, 9, 10, 9999};
        for (int n : bad) {
            refused("places " + n + ";", 3, 7);
        }
        for (int n = 2; n <= 7; n++) {
            taken("places " + n + ";", 1);
        }
        refused("places 7;far 7 0 1;", 3, 13);
        taken("places 7;far 6 0 1;", 2);
        refused("places 7;far 0 7 1;", 3, 15);
        taken("places 7;far 0 6 1;", 2);
        refused("far 0 1 0;", 3, 8);
        refused("far 0 1 0000;", 3, 8);
        taken("far 0 1 1;", 1);
        taken("far 0 1 9999;", 1);
        for (int p = 0; p < 7; p++) {
            refused("far " + p + " " + p + " 5;", 3, 6);
            refused("far " + p + "   000" + p + " 5;", 3, 8);
        }
    }

    private static void secondTime() {
        terms("4 places for the second time (its NAME), a far of a PAIR for the second time (its second PLACE)");
        refused("places 3;places 3;", 4, 9);
        refused("places 3;  places 4;", 4, 11);
        refused("places 3;far 0 1 5;places", 4, 19);
        for (int b = 1; b < 7; b++) {
            for (int a = 0; a < b; a++) {
                refused("far " + a + " " + b + " 5;far " + a + "  " + b + " 6;", 4, 17);
                refused("far " + a + " " + b + " 5;far " + b + "  " + a + " 5;", 4, 17);
            }
        }
        taken("far 0 1 5;far 0 2 5;far 1 2 5;", 3);
        fresh().feed("far 0 1 5;").due("land", 1).feed("far 0 1 6;").due("land", 1).due("far 0 1", 6);
        fresh().feed("places 4;").due("land", 1).feed("places 5;").due("land", 1).due("count 0", 5);
        fresh().feed("far 0 1 5;oak").due("land", -20).feed("places 4;far 0 1 6;").due("land", 2);
        fresh().feed("places 4;oak").due("land", -19).feed("places 5;").due("land", 1).due("count 0", 5);
    }

    private static void noPlace() {
        terms("Behind all (the length): 5 a PLACE that there is not");
        taken("far 0 2 5;", 1);
        refused("far 0 3 5;", 5, 10);
        refused("far 3 0 5;", 5, 10);
        refused("far 0 3 5;   ", 5, 13);
        for (int n = 2; n <= 6; n++) {
            taken("places " + n + ";far 0 " + (n - 1) + " 5;", 2);
            refused("places " + n + ";far 0 " + n + " 5;", 5, 19);
            refused("places " + n + ";far " + n + " 0 5;far 0 1 5;", 5, 29);
            refused("far " + n + " 0 5;places " + n + ";", 5, 19);
            taken("far " + n + " 0 5;places " + (n + 1) + ";", 2);
        }
        fresh().feed("far 0 6 5;oak").due("land", -20).feed("far 0 2 5;").due("land", 1);
        refused("far 0 3 5;" + " ".repeat(310), 5, 320);
    }

    private static void taken() {
        terms("A text that is taken stands in place of what there was (what no line tells is as at first)");
        of("places 7;far 5 6 4;far 0 1 9;").feed("far 0 2 8;").due("land", 1).due("count 0", 3).due("count 1", 1)
                .due("far 0 1", NONE).due("far 0 2", 8).due("far 5 6", BAD);
        of("places 7;far 5 6 4;far 0 1 9;").due("land", 0).due("count 0", 3).due("count 1", 0)
                .feed("places 7;").due("land", 1).due("far 5 6", NONE).due("far 0 1", NONE);
        of("places 2;far 0 1 9;").feed("  ").due("land", 0).due("count 0", 3).due("far 0 1", NONE);
        terms("the ROAD, IMAGES are gone");
        Run x = fresh().call("part 5").call("part 6").call("keep 0").call("keep 1");
        x.feed("oak").due("land", -10).due("count 2", 2).due("count 3", 2).due("back 0", 0).due("road 1", 11);
        x.due("land", 0).due("count 2", 0).due("count 3", 0).due("back 0", STATE).due("back 1", STATE);
        x.due("maps 0 0", STATE).due("road 0", STATE).due("clear", 0).due("keep 0", 0).due("part 1", 1);
        terms("SHEETS stay");
        Run y = fresh();
        for (int k = 0; k < 4; k++) {
            y.call("sheet " + k + " " + k % 3 + " 3").call("lay " + k + " 1 1").call("lay " + k + " 2 " + (k + 5));
        }
        y.call("read 0 1 0 1").feed("oak").due("land", -10).due("torn", 3).due("count 5", 3);
        y.feed("places 4;").due("land", 1).due("torn", 3).due("count 5", 3);
        for (int k = 0; k < 4; k++) {
            y.due("read " + k + " " + k % 3 + " 0 1", 1).due("far 0 1", k + 5);
        }
    }
}
