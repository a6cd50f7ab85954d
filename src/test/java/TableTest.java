/** Promises 1, 6 to 8 and 41: a new object, far, tell, pair, count. */
public final class TableTest {
    public static void main(String[] args) {
        newObject();
        farAndTell();
        pairs();
        counts();
        Check.finish();
    }

    private static void newObject() {
        OnlyFar x = new OnlyFar();
        int[] want = {3, 0, 0, 0, 0, OnlyFar.NONE};
        for (int what = 0; what < want.length; what++) {
            Check.due("count(" + what + ") of a new one", x.count(what), want[what]);
        }
        Check.due("far(0, 1)", x.far(0, 1), OnlyFar.NONE);
        Check.due("far(2, 1)", x.far(2, 1), OnlyFar.NONE);
        Check.due("far(2, 3)", x.far(2, 3), OnlyFar.BAD);
        for (int k = 0; k < 4; k++) {
            Check.due("lay on nothing", x.lay(k, 0, 1), -11);
        }
        Check.due("torn", x.torn(), 0);
        Check.due("fault", x.fault(), 0);
        Check.due("maps(0, 0)", x.maps(0, 0), OnlyFar.STATE);
    }

    private static void farAndTell() {
        OnlyFar x = new OnlyFar();
        Check.due("tell", x.tell(2, 0, 5), OnlyFar.NONE);
        Check.due("far(0, 2)", x.far(0, 2), 5);
        Check.due("far(2, 0)", x.far(2, 0), 5);
        Check.due("tell 9999", x.tell(0, 2, 9999), 5);
        Check.due("tell none", x.tell(0, 2, OnlyFar.NONE), 9999);
        Check.due("tell none again", x.tell(2, 0, OnlyFar.NONE), OnlyFar.NONE);
        Check.due("tell 1", x.tell(0, 2, 1), OnlyFar.NONE);
        int[] bad = {0, -1, -2, -3, -5, 10000, Integer.MAX_VALUE, Integer.MIN_VALUE};
        for (int v : bad) {
            Check.due("tell " + v, x.tell(0, 2, v), OnlyFar.BAD);
        }
        Check.due("far", x.far(0, 2), 1);
        int[][] worse = {{0, 0}, {0, 3}, {3, 0}, {-1, 0}, {0, -1}, {Integer.MIN_VALUE, Integer.MAX_VALUE}, {3, 4}};
        for (int[] two : worse) {
            Check.due("far of no two", x.far(two[0], two[1]), OnlyFar.BAD);
            Check.due("tell of no two", x.tell(two[0], two[1], 5), OnlyFar.BAD);
            Check.due("pair of no two", x.pair(two[0], two[1]), OnlyFar.BAD);
        }
        Check.due("count(1)", x.count(1), 1);
    }

    private static void pairs() {
        OnlyFar x = Check.of("places 7;");
        int number = 0;
        for (int b = 1; b < 7; b++) {
            for (int a = 0; a < b; a++) {
                Check.due("pair", x.pair(a, b), number);
                Check.due("pair", x.pair(b, a), number);
                number++;
            }
        }
        Check.due("pair(6, 6)", x.pair(6, 6), OnlyFar.BAD);
        Check.due("pair(6, 7)", x.pair(6, 7), OnlyFar.BAD);
    }

    private static void counts() {
        OnlyFar x = Check.of("places 5;far 0 1 3;far 3 4 3;");
        x.part(4);
        x.part(4);
        x.keep(1);
        x.feed(0);
        x.sheet(0, 2, 0);
        int[] want = {5, 2, 2, 1, 8, 0};
        for (int what = 0; what < want.length; what++) {
            Check.due("count(" + what + ")", x.count(what), want[what]);
        }
        x.keep(0);
        x.tell(0, 1, OnlyFar.NONE);
        x.sheet(0, 0, 40);
        Check.due("count(1)", x.count(1), 1);
        Check.due("count(3)", x.count(3), 2);
        Check.due("count(5)", x.count(5), 40);
        Check.due("count(-1)", x.count(-1), OnlyFar.BAD);
        Check.due("count(6)", x.count(6), OnlyFar.BAD);
    }
}
