import java.util.ArrayList;
import java.util.List;

/** Objects in which each part of the state has something, and a look at all of it. */
final class Rich {
    /** 0 is a new object, 1 has something of all but room for more, 2 is full. */
    static final int KINDS = 3;

    /** Calls that ask of THE TABLE alone. */
    static final String[] OF_THE_TABLE = {"wrong 0", "wrong 1", "wrong 2", "wrong 3", "falses 0", "falses 1", "doubt 0", "doubt 1",
        "wide 0 1 2", "four 0 1 2 3", "bend 0 1 2", "foot 0 1 2 0", "height 0 1 2 1", "round 0 1 2 0", "side 0 1 2 3",
        "within 0 1 2 3", "sixth 0 1 2 3 3", "sixth 2 3 0 1 4", "ends 0 1 0", "ends 0 1 1", "drawings 0 1 0", "drawings 0 1 1",
        "drawings 0 1 2", "drawings 0 1 3", "drawings 0 1 12", "drawings 0 1 13", "drawings 0 1 14", "drawings 0 2 0",
        "drawings 0 2 11", "spare 0 1 2 3", "spare 0 1 3 4", "base", "words 0 0", "words 2 1", "tells 0 6", "at 0 1 1 2",
        "spots 0 1 1 1"};

    /** Calls that only ask. */
    static final String[] ASKING = {"fault", "far 0 1", "pair 0 2", "wide 0 1 2", "three 0 1 2", "four 0 1 2 3", "wrong 0",
        "wrong 1", "wrong 2", "wrong 3", "falses 0", "falses 1", "doubt 0", "doubt 1", "bend 0 1 2", "foot 0 1 2 0",
        "height 0 1 2 1", "round 0 1 2 0", "side 0 1 2 3", "within 0 1 2 3", "sixth 0 1 2 3 0", "sixth 2 3 0 1 4", "ends 0 1 0",
        "ends 0 1 1", "drawings 0 1 0", "drawings 0 1 1", "drawings 0 1 2", "drawings 0 1 3", "drawings 0 1 12",
        "spare 0 1 2 3", "base", "tells 0 2", "words 0 0", "words 2 1", "at 0 25 1 25", "spots 0 9 1 9", "maps 0 0", "maps 0 11",
        "maps 1 10", "road 0", "road 1", "reaches 0 1", "torn", "count 0", "count 1", "count 2", "count 3", "count 4", "count 5"};

    /** Calls that are refused in every kind. */
    private static final String[] ALWAYS = {"end -1", "end 321", "far 0 0", "far 0 7", "far -1 0", "tell 0 1 0", "tell 0 1 10000",
        "tell 0 1 -1", "tell 0 0 5", "tell 0 7 5", "tell 7 0 NONE", "tell -1 0 5", "pair 0 7", "pair 1 1", "wide 0 0 1",
        "three 0 1 7", "four 0 1 2 2", "wrong 4", "wrong -1", "falses 2", "doubt -1", "bend 0 1 1", "foot 0 1 2 2",
        "height 0 1 2 -1", "round 0 0 1 0", "side 0 1 2 2", "within 0 1 2 7", "sixth 0 1 2 2 0", "sixth 0 1 2 3 5", "ends 0 0 0",
        "ends 0 1 2", "drawings 0 1 4", "drawings 0 1 17", "drawings 0 0 0", "spare 0 1 2 2", "tells 0 0", "tells 0 1",
        "tells 0 128", "tells 7 1", "words 7 0", "words 0 2", "at 0 0 1 1", "at 0 1 0 1", "spots 0 1 1 10000", "maps 2 0",
        "maps 0 1", "maps 0 17", "part 0", "part 100", "road 2", "road -1", "reaches 0 0", "reaches 0 7", "keep 2", "keep -1",
        "back 2", "back -1", "sheet 4 0 5", "sheet -1 0 5", "sheet 0 3 5", "sheet 0 -1 5", "sheet 0 0 41", "sheet 0 0 -1",
        "sheet 3 2 -1", "sheet 1 1 MIN", "lay 4 0 5", "lay -1 0 5", "lay 0 -1 5", "lay 0 40 5", "lay 2 MIN 5", "lay 3 40 1",
        "read 4 0 0 1", "read -1 0 0 0", "read 0 3 0 1", "read 0 -1 0 1", "read 0 0 0 14", "read 0 0 0 -1", "count 6", "count -1"};

    /** Calls that are refused in one kind. */
    private static final String[][] HERE = {
        {"end 1", "tell 0 1 NONE", "wide 0 1 2", "three 0 1 2", "doubt 0", "bend 0 1 2", "foot 0 1 2 0", "drawings 0 1 0",
            "drawings 0 1 12", "spare 0 1 0 2", "base", "words 0 0", "spots 0 1 1 1", "maps 0 0", "maps 1 10", "road 0",
            "road 1", "reaches 0 1", "back 0", "back 1", "lay 0 0 5", "lay 3 0 5", "count 5", "four 0 1 2 3"},
        {"end 23", "tell 3 4 NONE", "wide 0 3 4", "side 0 1 3 4", "within 0 3 4 1", "sixth 3 4 0 1 0", "spare 0 1 3 4",
            "drawings 3 4 0", "spots 3 5 4 5", "reaches 3 4", "maps 1 0", "back 1", "lay 0 6 5", "lay 1 7 5", "lay 2 3 5",
            "lay 3 0 5", "read 0 0 1 1", "read 1 1 0 2", "read 1 1 3 1", "read 2 2 0 1", "far 3 4"},
        {"feed 0", "feed -1", "feed 2314885530818453536", "part 1", "part 99", "falses 0", "falses 1", "lay 0 40 7",
            "lay 1 12 7", "lay 2 9 7", "lay 3 0 7", "read 0 0 0 13", "read 0 0 1 1", "read 1 1 0 4", "read 2 2 0 3", "side 0 1 2 3"}};

    private Rich() {
    }

    static List<String> refused(int kind) {
        List<String> calls = new ArrayList<>(List.of(ALWAYS));
        calls.addAll(List.of(HERE[kind]));
        return calls;
    }

    static Run make(int kind) {
        if (kind == 0) {
            return new Run();
        }
        return kind == 1 ? withRoom() : full();
    }

    private static Run withRoom() {
        Run x = new Run().feed("places 5;far 0 1 36;far 0 2 64;far 1 2 100;far 0 3 9;far 1 4 7;").call("land");
        x.call("part 9").call("part 4").call("keep 0").call("part 6").call("tell 0 3 8");
        fill(x, 0, 0, 1, 0, 35, 1, 2, 99);
        fill(x, 1, 1, 2, 0, 63, 4, 4, 11, 5);
        fill(x, 2, 2, 1, 0, 65536);
        return x.call("read 0 1 0 1").feed("places 3;places 3;").call("land").feed("places 6;far 4 5 123;").call("end 20").feed("3;");
    }

    private static Run full() {
        StringBuilder text = new StringBuilder("places 7;");
        for (int b = 1; b < 7; b++) {
            for (int a = 0; a < b; a++) {
                text.append("far").append(a).append(' ').append(b).append(' ').append(b + 2 * a).append(';');
            }
        }
        Run x = new Run().feed(text.toString()).call("land").call("keep 1");
        for (int l = 92; l <= 99; l++) {
            x.call("part " + l);
        }
        x.call("tell 5 6 9999").call("keep 0").call("tell 4 6 9998");
        fill(x, 0, 0, 0, 1, 35, 1, 2, 99).call("sheet 0 0 40").call("lay 0 37 5").call("lay 0 38 6").call("lay 0 39 77");
        fill(x, 1, 1, 2, 0, 63, 4, 5, 11, 5, 6, 9997, 6, 6, 1);
        fill(x, 2, 2, 1, 0, 7, 1, 2, 8, 2, 3, 0);
        fill(x, 3, 2);
        return x.call("read 3 2 0 1").feed("places 9;").call("land").feed(" ".repeat(311) + "places 4;");
    }

    private static Run fill(Run x, int k, int lane, int... cells) {
        x.call("sheet " + k + " " + lane + " " + cells.length);
        for (int i = 0; i < cells.length; i++) {
            x.call("lay " + k + " " + i + " " + cells[i]);
        }
        return x;
    }

    /** Reads out THE TABLE, the ROAD, the SHEETS, the IMAGES and THE TAPE; the object is not as it was then. */
    static String look(Run x) {
        StringBuilder seen = new StringBuilder(x.state());
        for (int k = 0; k < 4; k++) {
            for (int lane = 0; lane < 3; lane++) {
                for (int n = 13; n > 0; n -= 4) {
                    seen.append(x.ask("read " + k + " " + lane + " 0 " + n)).append(' ');
                }
                seen.append(x.ask("read " + k + " " + lane + " 37 1")).append(' ');
                seen.append(x.ask("torn")).append(' ');
            }
            seen.append(x.state());
        }
        for (int k = 0; k < 2; k++) {
            seen.append(x.ask("back " + k)).append(' ').append(x.state());
        }
        return seen.append(x.ask("land")).append(' ').append(x.ask("fault")).append(' ').append(x.state()).toString();
    }
}
