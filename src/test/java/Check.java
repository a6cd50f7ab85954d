/** What all tests share: counting wrong answers, texts for the tape, numbers that look drawn by lot. */
final class Check {
    static final long LONG_BAD = -9000000000L, LONG_STATE = -9000000001L;

    private static int asked = 0;
    private static int wrong = 0;
    private static String subject = "";
    private static int askedAhead = 0;

    private Check() {
    }

    static void due(String call, long got, long want) {
        asked++;
        if (got != want) {
            wrong++;
            if (wrong <= 40) {
                System.out.println(subject + call + " answered " + got + ", due is " + want);
            }
        }
    }

    /** What is asked from here on is about this; about what was named before something must have been asked. */
    static void about(String what) {
        if (!subject.isEmpty() && asked == askedAhead) {
            due("nothing", 0, 1);
        }
        subject = what + ": ";
        askedAhead = asked;
    }

    /** Prints the sum and ends the run with 1 if an answer was wrong. */
    static void finish() {
        System.out.println(asked + " answers asked, " + wrong + " wrong");
        if (wrong != 0 || asked == 0) {
            System.exit(1);
        }
    }

    /** Puts a text behind the tape, byte by byte as told (characters 0 to 255). */
    static void feed(OnlyFar x, String text) {
        int had = x.count(4);
        for (int i = 0; i < text.length(); i += 8) {
            long word = 0;
            for (int j = 0; j < 8; j++) {
                word = word << 8 | (i + j < text.length() ? text.charAt(i + j) : ' ');
            }
            x.feed(word);
        }
        x.end(had + text.length());
    }

    static int land(OnlyFar x, String text) {
        feed(x, text);
        return x.land();
    }

    static OnlyFar of(String text) {
        OnlyFar x = new OnlyFar();
        int lines = land(x, text);
        if (lines < 0) {
            throw new IllegalStateException("the test's own text is refused: " + text);
        }
        return x;
    }

    /** A text that is refused: its FAULT and place. */
    static void refused(String text, int fault, int place) {
        OnlyFar x = of("places 4;far 0 3 7;");
        x.part(5);
        x.keep(1);
        due("land of '" + text + "'", land(x, text), -10 - place);
        due("fault of '" + text + "'", x.fault(), fault);
        due("far(0, 3) behind '" + text + "'", x.far(0, 3), 7);
        due("count(0) behind '" + text + "'", x.count(0), 4);
        due("count(1) behind '" + text + "'", x.count(1), 1);
        due("count(2) behind '" + text + "'", x.count(2), 1);
        due("count(3) behind '" + text + "'", x.count(3), 1);
        due("count(4) behind '" + text + "'", x.count(4), 0);
    }

    /** All of the state that can be asked, as a text. */
    static String state(OnlyFar x) {
        StringBuilder all = new StringBuilder();
        for (int what = 0; what < 6; what++) {
            all.append(x.count(what)).append(' ');
        }
        for (int b = 1; b < 7; b++) {
            for (int a = 0; a < b; a++) {
                all.append(x.far(a, b)).append(' ');
            }
        }
        return all.append(x.fault()).append(' ').append(x.torn()).append(' ').append(x.road(0)).append(' ')
                .append(x.road(1)).toString();
    }

    /** A fixed row of numbers, the same in each run. */
    static final class Lot {
        private long seed;

        Lot(long seed) {
            this.seed = seed;
        }

        /** 0 to bound less 1. */
        int below(int bound) {
            seed = seed * 6364136223846793005L + 1442695040888963407L;
            return (int) ((seed >>> 33) % bound);
        }

        int from(int least, int greatest) {
            return least + below(greatest - least + 1);
        }
    }
}
