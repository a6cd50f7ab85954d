/** Promises 1 to 8, 31 to 33 and 35 to 41: long runs of calls by lot, each answered as by the model. */
public final class ModelTest {
    private static final int[] FAR_OFF = {Integer.MIN_VALUE, Integer.MIN_VALUE + 1, -4, -1, 40, 41, 320, 9999, 10000,
        Integer.MAX_VALUE - 2, Integer.MAX_VALUE};
    private static final String[] WORDS = {"places", "far", "oak", "fa", "placesfar", "!", "A", "00003", ";", "0", "7"};

    public static void main(String[] args) {
        Check.Lot lot = new Check.Lot(36);
        for (int round = 0; round < 1500; round++) {
            Run run = new Run();
            Model model = new Model();
            while (run.made() < Run.MOST_CALLS - 90) {
                if (lot.below(14) == 0) {
                    text(run, model, lot);
                } else {
                    both(run, model, call(lot));
                }
                if (lot.below(24) == 0) {
                    lookAtAll(run, model);
                }
            }
            lookAtAll(run, model);
        }
        Check.finish();
    }

    private static void both(Run run, Model model, String call) {
        run.due(call, model.ask(call));
    }

    private static void lookAtAll(Run run, Model model) {
        for (int what = 0; what < 6; what++) {
            both(run, model, "count " + what);
        }
        for (int b = 1; b < model.ask("count 0"); b++) {
            for (int a = 0; a < b; a++) {
                both(run, model, "far " + a + " " + b);
            }
        }
        both(run, model, "fault");
        both(run, model, "torn");
        both(run, model, "road 0");
        both(run, model, "road 1");
    }

    private static String call(Check.Lot lot) {
        return switch (lot.below(22)) {
            case 0 -> "feed " + (lot.below(2) == 0 ? 0x2020202020202020L : (long) lot.below(1 << 30) << 33 ^ lot.below(1 << 30));
            case 1 -> "end " + value(lot, 0, 40);
            case 2 -> "land";
            case 3, 4 -> "tell " + two(lot) + " " + (lot.below(4) == 0 ? OnlyFar.NONE : value(lot, 1, 9999));
            case 5 -> "pair " + two(lot);
            case 6, 7 -> "part " + value(lot, 1, 99);
            case 8 -> lot.below(4) == 0 ? "clear" : "road " + value(lot, 0, 1);
            case 9 -> "keep " + value(lot, 0, 1);
            case 10 -> "back " + value(lot, 0, 1);
            case 11 -> "sheet " + value(lot, 0, 3) + " " + value(lot, 0, 2) + " " + value(lot, 0, 40);
            case 12, 13, 14, 15 -> "lay " + value(lot, 0, 3) + " " + value(lot, 0, 12) + " " + value(lot, 0, 4);
            case 16 -> "lay " + value(lot, 0, 3) + " " + value(lot, 0, 40) + " " + lot.from(-70000, 70000);
            case 17 -> "far " + two(lot);
            default -> "read " + value(lot, 0, 3) + " " + value(lot, 0, 2) + " " + value(lot, 0, 9) + " " + value(lot, 0, 4);
        };
    }

    private static String two(Check.Lot lot) {
        return value(lot, 0, 6) + " " + value(lot, 0, 4);
    }

    private static int value(Check.Lot lot, int least, int greatest) {
        return lot.below(12) == 0 ? FAR_OFF[lot.below(FAR_OFF.length)] : lot.from(least, greatest);
    }

    /** A text that is mostly as it should be, and its land. */
    private static void text(Run run, Model model, Check.Lot lot) {
        StringBuilder text = new StringBuilder();
        int lines = lot.below(8);
        for (int i = 0; i < lines; i++) {
            text.append(" ".repeat(lot.below(3)));
            if (lot.below(6) == 0) {
                text.append("places").append(" ".repeat(lot.below(2))).append(lot.from(2, 7));
            } else {
                text.append("far ").append(lot.below(5)).append(' ').append(lot.below(4)).append(' ').append(lot.from(1, 9999));
            }
            text.append(lot.below(30) == 0 ? WORDS[lot.below(WORDS.length)] : " ".repeat(lot.below(2))).append(';');
        }
        if (lot.below(5) == 0 && text.length() > 0) {
            text.setCharAt(lot.below(text.length()), (char) lot.below(256));
        }
        if (lot.below(3) > 0) {
            both(run, model, "end 0");
        }
        for (int i = 0; i < text.length(); i += 8) {
            long word = 0;
            for (int j = 0; j < 8; j++) {
                word = word << 8 | (i + j < text.length() ? text.charAt(i + j) : ' ');
            }
            both(run, model, "feed " + word);
        }
        if (lot.below(3) == 0) {
            both(run, model, "end " + text.length());
        }
        both(run, model, "land");
        both(run, model, "fault");
    }
}
