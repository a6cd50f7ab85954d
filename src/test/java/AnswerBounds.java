import java.util.ArrayList;
import java.util.List;

/** The answers themselves: what is BAD, which answer comes first, and that what is refused changes nothing. */
final class AnswerBounds extends Bounds {
    static void all() {
        places();
        numbers();
        order();
        numbersFromNought();
        refusedChangesNothing();
        askingChangesNothing();
        askedInAnyOrder();
        manyCalls();
    }

    /** Calls whose PLACES must all be unlike, with what else they need behind these. */
    private static final String[][] UNLIKE = {{"far", "2", ""}, {"pair", "2", ""}, {"tell", "2", " 5"}, {"ends", "2", " 0"},
        {"reaches", "2", ""}, {"drawings", "2", " 0"}, {"three", "3", ""}, {"bend", "3", ""}, {"wide", "3", ""},
        {"foot", "3", " 0"}, {"height", "3", " 1"}, {"round", "3", " 0"}, {"four", "4", ""}, {"side", "4", ""},
        {"within", "4", ""}, {"sixth", "4", " 0"}};

    private static void places() {
        terms("Answers: BAD -1 (a number is not as told, there is no such PLACE, IMAGE, SHEET)");
        for (String[] call : UNLIKE) {
            for (int n = 2; n <= 7; n += n == 4 ? 3 : 1) {
                unlike(call, n, 0);
                unlike(call, n, 5);
            }
        }
    }

    /** All choices of PLACES from -1 to n and some far off: BAD, if one is none or two are alike, and else not. */
    private static void unlike(String[] call, int n, int square) {
        int many = Integer.parseInt(call[1]);
        int[] choice = choices(n, many);
        int all = 1;
        for (int i = 0; i < many; i++) {
            all *= choice.length;
        }
        Run x = null;
        for (int code = 0; code < all; code++) {
            if (x == null || x.made() > 450) {
                x = square == 0 ? of("places " + n + ";") : alike(n, square);
            }
            long seen = 0;
            boolean good = true;
            StringBuilder text = new StringBuilder(call[0]);
            for (int i = 0, rest = code; i < many; i++, rest /= choice.length) {
                int p = choice[rest % choice.length];
                good = good && p >= 0 && p < n && (seen >> p & 1) == 0;
                seen |= p >= 0 && p < n ? 1L << p : 0;
                text.append(' ').append(p);
            }
            long answer = x.ask(text + call[2]);
            Check.due(text + call[2] + " with " + n + " PLACES is BAD", isBad(call[0], answer) ? 1 : 0, good ? 0 : 1);
        }
    }

    /** Four of seven are too many to try each with each, so the middle PLACES are left out there. */
    private static int[] choices(int n, int many) {
        List<Integer> some = new ArrayList<>(List.of(-1, n));
        if (many < 4) {
            some.addAll(List.of(Integer.MIN_VALUE, Integer.MAX_VALUE, n + 1));
        }
        for (int p = 0; p < n; p++) {
            if (many < 4 || p < 3 || p > n - 3) {
                some.add(p);
            }
        }
        return some.stream().mapToInt(Integer::intValue).toArray();
    }

    private static boolean isBad(String name, long answer) {
        boolean wide = List.of("wide", "foot", "height", "round", "sixth").contains(name);
        return answer == (wide ? LONG_BAD : BAD);
    }

    /** One number of a call at both sides of each of its bounds: the call with ? for it, the least, the greatest. */
    private static void numbers() {
        terms("a number is not as told");
        bounds("wrong ?", 0, 3);
        bounds("falses ?", 0, 1);
        bounds("doubt ?", 0, 1);
        bounds("foot 0 1 2 ?", 0, 1);
        bounds("height 0 1 2 ?", 0, 1);
        bounds("round 0 1 2 ?", 0, 1);
        bounds("sixth 0 1 2 3 ?", 0, 4);
        bounds("ends 0 1 ?", 0, 1);
        bounds("drawings 0 1 ?", 0, 3);
        bounds("drawings 0 1 ?", 10, 13);
        bounds("spare ? 1 2 3", 0, 0);
        bounds("spare 0 ? 2 3", 1, 3);
        bounds("spare 0 1 ? 3", 0, 2);
        bounds("spare 0 1 2 ?", 3, 3);
        bounds("tells ? 8", 0, 2);
        bounds("tells 0 ?", 14, 14);
        bounds("words ? 0", 0, 3);
        bounds("words 0 ?", 0, 1);
        bounds("at 0 ? 1 5", 1, 9999);
        bounds("at 0 5 1 ?", 1, 9999);
        bounds("at ? 5 3 5", 0, 2);
        bounds("at 3 5 ? 5", 0, 2);
        bounds("spots 0 ? 1 5", 1, 9999);
        bounds("spots 0 5 1 ?", 1, 9999);
        bounds("spots ? 5 3 5", 0, 2);
        bounds("spots 3 5 ? 5", 0, 2);
        bounds("maps ? 0", 0, 1);
        bounds("maps 0 ?", 0, 0);
        bounds("maps 0 ?", 10, 13);
        bounds("tell 0 1 ?", 1, 9999);
        bounds("tell 0 1 ?", NONE, NONE);
        bounds("part ?", 1, 99);
        bounds("road ?", 0, 1);
        bounds("keep ?", 0, 1);
        bounds("back ?", 0, 1);
        bounds("sheet ? 0 5", 0, 3);
        bounds("sheet 0 ? 5", 0, 2);
        bounds("lay ? 0 5", 0, 3);
        bounds("read ? 0 0 1", 0, 3);
        bounds("read 0 ? 0 1", 0, 2);
        bounds("read 0 0 0 ?", 0, 13);
        bounds("count ?", 0, 5);
        bounds("end ?", 0, 8);
    }

    private static void bounds(String call, int least, int greatest) {
        String name = call.split(" ")[0];
        int[] values = {Integer.MIN_VALUE, least - 1, least, greatest, greatest + 1, Integer.MAX_VALUE};
        for (int v : values) {
            Run x = alike(4, 5).call("part 5").call("keep 0").call("keep 1").call("feed 0");
            long answer = x.ask(call.replace("?", "" + v));
            boolean good = v >= least && v <= greatest;
            Check.due(call + " with " + v + " is BAD", isBad(name, answer) ? 1 : 0, good ? 0 : 1);
        }
    }

    /** Calls for which more than one answer fits. */
    private static void order() {
        terms("STATE -2 (as told), FULL -3, NONE -4 (there is none), the first that fits");
        fresh().due("drawings 0 1 4", BAD).due("drawings 0 1 12", STATE).due("drawings 0 3 12", BAD).due("spare 0 1 2 2", BAD);
        fresh().due("spare 0 1 0 2", STATE).due("spots 0 1 1 0", BAD).due("spots 0 1 1 1", STATE).due("maps 0 1", BAD);
        fresh().due("maps 0 10", STATE).due("maps 2 10", BAD).due("road 2", BAD).due("road 1", STATE).due("back 2", BAD);
        fresh().due("back 0", STATE).due("reaches 0 0", BAD).due("reaches 0 1", STATE).due("tell 0 1 0", BAD);
        fresh().due("tell 0 1 1", NONE).due("far 0 3", BAD).due("far 0 2", NONE).due("three 0 1 1", BAD).due("three 0 1 2", NONE);
        fresh().due("bend 0 1 1", BAD).due("bend 0 1 2", NONE).due("wide 0 1 1", LONG_BAD).due("wide 0 1 2", LONG_STATE);
        fresh().due("foot 0 1 2 2", LONG_BAD).due("foot 0 1 2 0", LONG_STATE).due("height 0 1 2 2", LONG_BAD);
        fresh().due("height 0 1 2 1", LONG_STATE).due("round 0 1 2 2", LONG_BAD).due("round 0 1 2 1", LONG_STATE);
        fresh().due("words 3 0", BAD).due("words 0 2", BAD).due("words 0 0", NONE).due("doubt 2", BAD).due("doubt 0", NONE);
        of("places 4;").due("four 0 1 2 2", BAD).due("four 0 1 2 3", NONE).due("side 0 1 2 2", BAD).due("side 0 1 2 3", STATE)
                .due("within 0 1 2 2", BAD).due("within 0 1 2 3", STATE).due("sixth 0 1 2 3 5", LONG_BAD)
                .due("sixth 0 1 2 3 3", LONG_STATE);
        three(1, 0, 1).due("reaches 0 2", STATE).call("part 1").due("reaches 0 2", NONE).due("reaches 2 2", BAD);
        Run full = fresh();
        for (int i = 0; i < 8; i++) {
            full.call("part 1");
        }
        full.due("part 0", BAD).due("part 100", BAD).due("part 1", FULL);
        fresh().due("sheet 4 0 -1", BAD).due("sheet 0 3 -1", BAD).due("sheet 0 0 -1", -14).due("lay 4 -1 0", BAD);
        fresh().due("lay 0 -1 0", -11).due("read 4 0 0 1", BAD).due("read 0 0 -1 1", 0).due("torn", 1);
    }

    private static void numbersFromNought() {
        terms("What is numbered has its numbers from 0 on, as it comes, where nothing else is told");
        fresh().due("far 0 1", NONE).due("far -1 1", BAD).due("pair 0 1", 0).due("keep 0", 0).due("keep -1", BAD);
        fresh().due("sheet 0 0 1", 1).due("sheet -1 0 1", BAD).due("lay 0 0 1", 1).due("lay 0 -1 1", -12);
        fresh().feed("!").due("land", -10);
    }

    private static void refusedChangesNothing() {
        terms("what is refused changes nothing (but THE TAPE, as told)");
        for (int kind = 0; kind < Rich.KINDS; kind++) {
            String ahead = Rich.look(Rich.make(kind));
            for (String call : Rich.refused(kind)) {
                Run x = Rich.make(kind);
                Check.due(call + " of kind " + kind + " is refused", x.ask(call) < 0 ? 1 : 0, 1);
                Check.due(call + " left kind " + kind + " as it was", Rich.look(x).equals(ahead) ? 1 : 0, 1);
            }
            refusedLand(kind);
        }
    }

    /** THE TAPE is empty then and the FAULT is told; all else is as it was. */
    private static void refusedLand(int kind) {
        String ahead = Rich.look(Rich.make(kind).call("end 0"));
        String[] texts = {"!", "places 2;oak", "places 8;", "far 0 1 1;far 0 1 1;", "places 2;far 0 2 1;"};
        for (int i = 0; i < texts.length; i++) {
            Run x = Rich.make(kind).call("end 0").feed(texts[i]);
            Check.due("'" + texts[i] + "' is refused", x.ask("land") < 0 ? 1 : 0, 1);
            x.due("fault", i + 1);
            Check.due("'" + texts[i] + "' left kind " + kind + " as it was", Rich.look(x).equals(ahead) ? 1 : 0, 1);
        }
    }

    /** Nothing in the document lets a call that only asks change what later ones answer. */
    private static void askingChangesNothing() {
        Check.about("calls that only ask");
        for (int kind = 0; kind < Rich.KINDS; kind++) {
            String ahead = Rich.look(Rich.make(kind));
            long fault = Rich.make(kind).ask("fault");
            for (String call : Rich.ASKING) {
                Run x = Rich.make(kind).call(call).due("fault", fault);
                Check.due(call + " left kind " + kind + " as it was", Rich.look(x).equals(ahead) ? 1 : 0, 1);
            }
        }
    }

    /** What a call answers hangs on what there is, not on what was asked ahead of it of another table. */
    private static void askedInAnyOrder() {
        Check.about("calls behind calls of another table");
        Check.Lot lot = new Check.Lot(6);
        for (int round = 0; round < 60; round++) {
            int places = lot.from(3, 7);
            int[][] tables = {squares(lot, places), squares(lot, places)};
            Run both = lengths(places, tables[0]).call("keep 0");
            tell(both, places, tables[1]);
            both.call("keep 1");
            for (int turn = 0; turn < 4; turn++) {
                both.call("back " + turn % 2);
                Run alone = lengths(places, tables[turn % 2]);
                for (String call : Rich.OF_THE_TABLE) {
                    both.due(call, alone.ask(call));
                }
            }
        }
    }

    private static int[] squares(Check.Lot lot, int places) {
        int[] squares = new int[places * (places - 1) / 2];
        for (int pair = 0; pair < squares.length; pair++) {
            squares[pair] = lot.below(6) == 0 ? 0 : lot.from(1, 4);
        }
        return squares;
    }

    private static void tell(Run x, int places, int[] squares) {
        for (int b = 1; b < places; b++) {
            for (int a = 0; a < b; a++) {
                int square = squares[b * (b - 1) / 2 + a];
                x.call("tell " + a + " " + b + " " + (square == 0 ? "NONE" : square));
            }
        }
    }

    /** The last call that is promised is answered as the first one. */
    private static void manyCalls() {
        Doc.says(Doc.OVERVIEW, "An object is used for at most 512 calls after it has been made");
        Run x = fresh().call("tell 0 1 1");
        for (int v = 2; v <= Run.MOST_CALLS; v++) {
            x.due("tell 0 1 " + v, v - 1);
        }
        Check.due("calls of one object", x.made(), Run.MOST_CALLS);
    }
}
