import java.util.List;

/** Promises 1 to 41: runs of all calls by lot, on lands that are nearly so in a plane, each call answered as by the model. */
public final class WholeTest {
    private static final int ROUNDS = 700;
    private static final int[] FAR_OFF = {Integer.MIN_VALUE, Integer.MIN_VALUE + 9, Integer.MIN_VALUE + 10, -10, -4, -1, 4, 7, 9,
        17, 128, 10000, Integer.MAX_VALUE};

    /** A call and its arguments: p PLACES unlike the others, q any PLACE, w a what, s bits of PLACES, n a square, and numbers to a bound. */
    private static final List<String> CALLS = List.of("far p p", "pair p p", "wide p p p", "three p p p", "four p p p p", "wrong 3",
        "falses 1", "doubt 1", "bend p p p", "foot p p p 1", "height p p p 1", "round p p p 1", "side p p p p", "within p p p p",
        "sixth p p p p 4", "sixth p p p p 4", "ends p p 1", "drawings p p w", "drawings p p w", "drawings p p w", "spare p p q q",
        "spare p p p p", "base", "tells q s", "words p 1", "at p n p n", "spots p n p n", "maps 1 w", "maps 1 0", "reaches p p",
        "road 1", "keep 1", "back 1", "part 12", "clear", "count 5", "fault", "torn", "tell p p n", "tell p p n", "tell p p n",
        "sheet 3 2 40", "lay 3 5 6", "lay 3 5 6", "read 3 2 3 1", "feed 9", "end 9");

    private final Check.Lot lot;
    private final Run run = new Run();
    private final Model model = new Model();
    private Land points;

    private WholeTest(Check.Lot lot) {
        this.lot = lot;
    }

    public static void main(String[] args) {
        Check.Lot lot = new Check.Lot(41);
        for (int round = 0; round < ROUNDS; round++) {
            new WholeTest(lot).go();
        }
        Check.finish();
    }

    private void go() {
        newLand();
        while (run.made() < Run.MOST_CALLS - 50) {
            int next = lot.below(80);
            if (next == 0) {
                newLand();
            } else if (next == 1) {
                otherNames();
            } else {
                both(arguments(CALLS.get(lot.below(CALLS.size()))));
            }
        }
    }

    private void both(String call) {
        run.due(call, model.ask(call));
    }

    private int places() {
        return (int) model.ask("count 0");
    }

    /** A text of a land of some kind; some texts have a byte that may be false. */
    private void newLand() {
        int places = lot.below(4) == 0 ? lot.from(2, 4) : lot.from(5, 7);
        points = new Land(lot, 7, lot.below(3) == 0 ? lot.from(8, 60) : lot.from(3, 5));
        int kind = lot.below(4);
        int missing = lot.below(4) * 10;
        StringBuilder text = new StringBuilder(places == 3 ? "" : "places " + places + ";");
        for (int b = 1; b < places; b++) {
            for (int a = 0; a < b; a++) {
                int square = squareOf(kind, a, b);
                if (square > 0 && lot.below(100) >= missing) {
                    text.append("far").append(b).append(' ').append(a).append(' ').append(square).append(';');
                }
            }
        }
        if (lot.below(12) == 0 && text.length() > 0) {
            text.setCharAt(lot.below(text.length()), " ;0f!".charAt(lot.below(5)));
        }
        feed(text);
        both("land");
        both("fault");
    }

    /** As the points lie (0), to two of them alone (1), a few false (2), all by lot (3); 0 is none. */
    private int squareOf(int kind, int a, int b) {
        boolean toBase = a < 2;
        return switch (kind) {
            case 0 -> points.far(a, b);
            case 1 -> toBase || lot.below(6) == 0 ? points.far(a, b) : 0;
            case 2 -> lot.below(8) == 0 ? lot.from(1, 40) : points.far(a, b);
            default -> lot.from(1, 2) * lot.from(1, 2);
        };
    }

    /** THE TABLE is kept, and then told anew with other names. */
    private void otherNames() {
        int places = places();
        int turn = lot.from(1, places - 1);
        int[] squares = new int[places * places];
        both("keep 0");
        for (int a = 0; a < places; a++) {
            for (int b = 0; b < a; b++) {
                squares[nameOf(a, turn) * places + nameOf(b, turn)] = (int) model.ask("far " + a + " " + b);
            }
        }
        for (int a = 0; a < places; a++) {
            for (int b = 0; b < places; b++) {
                if (squares[a * places + b] != 0) {
                    both("tell " + a + " " + b + " " + squares[a * places + b]);
                }
            }
        }
        both("maps 0 0");
        for (int p = 0; p < places; p++) {
            both("maps 0 " + (10 + p));
        }
    }

    /** Turned as by a wheel, and PLACES 0 and 1 with one another ahead of that. */
    private int nameOf(int p, int turn) {
        return ((p < 2 ? 1 - p : p) + turn) % places();
    }

    private void feed(StringBuilder text) {
        both("end 0");
        for (int i = 0; i < text.length(); i += 8) {
            long word = 0;
            for (int j = i; j < i + 8; j++) {
                word = word << 8 | (j < text.length() ? text.charAt(j) : ' ');
            }
            both("feed " + word);
        }
    }

    private String arguments(String call) {
        String[] words = call.split(" ");
        StringBuilder text = new StringBuilder(words[0]);
        int used = 0;
        int a = -1;
        int b = -1;
        for (int i = 1; i < words.length; i++) {
            int v;
            switch (words[i]) {
                case "p":
                    v = unused(used);
                    used |= 1 << v;
                    a = b;
                    b = v;
                    break;
                case "q":
                    v = lot.below(places());
                    break;
                case "w":
                    v = lot.below(2) == 0 ? lot.below(4) : 10 + lot.below(places());
                    break;
                case "s":
                    v = lot.from(1, (1 << places()) - 1);
                    break;
                case "n":
                    v = square(call, a, b);
                    break;
                default:
                    v = lot.from(0, Integer.parseInt(words[i]));
            }
            text.append(' ').append(lot.below(60) == 0 ? FAR_OFF[lot.below(FAR_OFF.length)] : v);
        }
        return text.toString();
    }

    /** A PLACE that is not used; any number, if there are too few. */
    private int unused(int used) {
        int places = places();
        for (int turn = 0; turn < 50; turn++) {
            int p = lot.below(places);
            if ((used >> p & 1) == 0) {
                return p;
            }
        }
        return lot.below(8);
    }

    /** Of tell: mostly as the points lie, now and then none or a false one; else one that a PLACE may have to another. */
    private int square(String call, int a, int b) {
        int kind = lot.below(12);
        if (kind == 0) {
            return call.startsWith("tell") ? OnlyFar.NONE : lot.from(1, 9999);
        }
        if (kind == 1) {
            return lot.from(1, 60);
        }
        boolean asPoints = call.startsWith("tell") && a >= 0 && a < 7 && b < 7 && a != b;
        int other = (b + 1 + lot.below(6)) % 7;
        return asPoints ? points.far(a, b) : points.far(b % 7, other);
    }
}
