/** What the boundary tests share: the answers by name, the words of the document, lands that are soon told. */
abstract class Bounds {
    static final int BAD = -1, STATE = -2, FULL = -3, NONE = -4;
    static final long LONG_BAD = -9000000000L, LONG_STATE = -9000000001L;

    /** Numbers that no call takes for a PLACE, an IMAGE, a SHEET, a lane or a what. */
    static final int[] FAR_OFF = {Integer.MIN_VALUE, Integer.MIN_VALUE + 9, Integer.MIN_VALUE + 10, -1000000, 1000000,
        Integer.MAX_VALUE - 9, Integer.MAX_VALUE};

    static void says(int promise, String words) {
        Doc.says("Promise " + promise, words);
    }

    static void terms(String words) {
        Doc.says("Terms", words);
    }

    static Run fresh() {
        return new Run();
    }

    static Run of(String text) {
        return Run.of(text);
    }

    /** Three PLACES with the squares 01, 02, 12; 0 is none. */
    static Run three(int ab, int ac, int bc) {
        return lengths(3, ab, ac, bc);
    }

    /** PLACES with their squares by PAIRS; 0 is none, and so are those that are not told. */
    static Run lengths(int places, int... squares) {
        StringBuilder text = new StringBuilder("places ").append(places).append(';');
        int pair = 0;
        for (int b = 1; b < places; b++) {
            for (int a = 0; a < b; a++) {
                if (pair < squares.length && squares[pair] > 0) {
                    text.append("far").append(a).append(' ').append(b).append(' ').append(squares[pair]).append(';');
                }
                pair++;
            }
        }
        return of(text.toString());
    }

    /** PLACES with all squares told, by their coordinates: x, y of PLACE 0, then of 1, .. */
    static Run points(int... xy) {
        int places = xy.length / 2;
        int[] squares = new int[places * (places - 1) / 2];
        int pair = 0;
        for (int b = 1; b < places; b++) {
            for (int a = 0; a < b; a++) {
                int dx = xy[2 * a] - xy[2 * b];
                int dy = xy[2 * a + 1] - xy[2 * b + 1];
                squares[pair] = dx * dx + dy * dy;
                pair++;
            }
        }
        return lengths(places, squares);
    }

    /** The squares of all PAIRS alike. */
    static Run alike(int places, int square) {
        int[] squares = new int[places * (places - 1) / 2];
        java.util.Arrays.fill(squares, square);
        return lengths(places, squares);
    }
}
