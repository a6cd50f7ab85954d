/** Promises 9 to 14: wide, three, four, wrong, falses, doubt. */
public final class ThreesTest {
    public static void main(String[] args) {
        wideAndThree();
        fours();
        wrongs();
        inALine();
        askedFirst();
        falsesByTrial();
        fewestOfSeveral();
        threeOrFourFalse();
        moreThanThree();
        Check.finish();
    }

    private static void wideAndThree() {
        OnlyFar x = Check.of("places 4;far 0 1 9;far 0 2 16;far 1 2 25;far 0 3 9999;far 1 3 9999;");
        Check.due("wide", x.wide(0, 1, 2), 576);
        Check.due("wide", x.wide(2, 1, 0), 576);
        Check.due("three", x.three(0, 2, 1), 1);
        Check.due("wide", x.wide(0, 1, 3), 4L * 9 * 9999 - 81);
        Check.due("wide", x.wide(0, 2, 3), Check.LONG_STATE);
        Check.due("three", x.three(3, 2, 1), OnlyFar.NONE);
        x.tell(2, 3, 1);
        Check.due("wide below 0", x.wide(0, 2, 3), 4L * 16 * 9999 - (16L + 9999 - 1) * (16 + 9999 - 1));
        Check.due("three", x.three(0, 2, 3), 0);
        OnlyFar most = Check.of("far 0 1 9999;far 0 2 9999;far 1 2 9999;");
        Check.due("wide", most.wide(0, 1, 2), 3L * 9999 * 9999);
        OnlyFar line = Check.of("far 0 1 4;far 1 2 9;far 0 2 25;");
        Check.due("wide", line.wide(0, 1, 2), 0);
        Check.due("three", line.three(0, 1, 2), 1);
        int[][] bad = {{0, 0, 1}, {0, 1, 0}, {1, 0, 0}, {0, 1, 3}, {-1, 0, 1}, {0, Integer.MAX_VALUE, 1}};
        for (int[] t : bad) {
            Check.due("wide", line.wide(t[0], t[1], t[2]), Check.LONG_BAD);
            Check.due("three", line.three(t[0], t[1], t[2]), OnlyFar.BAD);
            Check.due("bend", line.bend(t[0], t[1], t[2]), OnlyFar.BAD);
        }
    }

    private static void fours() {
        OnlyFar x = Check.of("places 5;far 0 1 1;far 1 2 1;far 2 3 1;far 3 0 1;far 0 2 2;far 1 3 2;");
        Check.due("four of a square", x.four(0, 1, 2, 3), 1);
        Check.due("four of a square", x.four(2, 0, 3, 1), 1);
        x.tell(1, 3, 1);
        Check.due("four off the plane", x.four(0, 1, 2, 3), 0);
        x.tell(1, 3, OnlyFar.NONE);
        Check.due("four", x.four(0, 1, 2, 3), OnlyFar.NONE);
        Check.due("four", x.four(0, 1, 2, 4), OnlyFar.NONE);
        Check.due("four", x.four(0, 1, 2, 5), OnlyFar.BAD);
        Check.due("four", x.four(-1, 1, 2, 3), OnlyFar.BAD);
        int[][] alike = {{0, 0, 1, 2}, {0, 1, 0, 2}, {0, 1, 2, 0}, {0, 1, 1, 2}, {0, 1, 2, 1}, {0, 1, 2, 2}};
        for (int[] f : alike) {
            Check.due("four alike", x.four(f[0], f[1], f[2], f[3]), OnlyFar.BAD);
        }
        OnlyFar all = Check.of("places 4;far 0 1 1;far 0 2 1;far 0 3 1;far 1 2 9;far 1 3 9;far 2 3 9;");
        Check.due("four whose threes can not be", all.four(0, 1, 2, 3), 0);
    }

    private static void wrongs() {
        OnlyFar x = new OnlyFar();
        for (int what = 0; what < 4; what++) {
            Check.due("wrong of nothing", x.wrong(what), 0);
        }
        Check.due("wrong(-1)", x.wrong(-1), OnlyFar.BAD);
        Check.due("wrong(4)", x.wrong(4), OnlyFar.BAD);
        Check.due("falses(-1)", x.falses(-1), OnlyFar.BAD);
        Check.due("falses(2)", x.falses(2), OnlyFar.BAD);
        Check.due("doubt(-1)", x.doubt(-1), OnlyFar.BAD);
        Check.due("doubt(2)", x.doubt(2), OnlyFar.BAD);
        Check.due("doubt(0)", x.doubt(0), OnlyFar.NONE);
        Check.due("doubt(1)", x.doubt(1), OnlyFar.NONE);
        Check.due("falses(1)", x.falses(1), 0);
    }

    private static void inALine() {
        OnlyFar x = Check.of("places 4;far 0 1 1;far 1 2 1;far 0 2 4;far 2 3 1;far 1 3 4;far 0 3 9;");
        Check.due("wrong(2) of a line", x.wrong(2), 4);
        Check.due("wrong(2) again", x.wrong(2), 4);
        Check.due("wrong(3)", x.wrong(3), 4);
        Check.due("wrong(0)", x.wrong(0), 0);
        Check.due("wrong(1)", x.wrong(1), 0);
        x.tell(0, 3, 10);
        Check.due("wrong(2)", x.wrong(2), 2);
        Check.due("wrong(0)", x.wrong(0), 2);
        Check.due("wrong(0) again", x.wrong(0), 2);
        Check.due("wrong(1)", x.wrong(1), 1);
        x.tell(0, 3, OnlyFar.NONE);
        Check.due("wrong(3)", x.wrong(3), 2);
    }

    /** What falses and doubt answer hangs on no call ahead of them. */
    private static void askedFirst() {
        String text = "places 4;far 1 2 1;far 1 3 1;far 2 3 9;";
        Check.due("falses(0)", Check.of(text).falses(0), 1);
        Check.due("falses(1)", Check.of(text).falses(1), 4);
        Check.due("doubt(0)", Check.of(text).doubt(0), 2);
        Check.due("doubt(1)", Check.of(text).doubt(1), 1);
        Check.due("wrong(0)", Check.of(text).wrong(0), 1);
    }

    /** Two threes that share a PAIR which is not their least, and one that shares none: the search must go on. */
    private static void fewestOfSeveral() {
        OnlyFar x = Check.of("places 4;far 0 1 1;far 0 2 1;far 1 2 9;far 0 3 1;far 1 3 1;");
        x.tell(0, 3, 9);
        Check.due("falses(1)", x.falses(1), 1);
        OnlyFar y = Check.of("places 5;far 0 1 1;far 0 2 9;far 1 2 1;far 0 3 9;far 2 3 1;far 3 4 1;far 0 4 100;");
        compareFalses(y, -1);
        Check.Lot lot = new Check.Lot(13);
        for (int round = 0; round < 400; round++) {
            OnlyFar z = Check.of("places 5;");
            for (int b = 1; b < 5; b++) {
                for (int a = 0; a < b; a++) {
                    int v = lot.below(3);
                    z.tell(a, b, v == 0 ? OnlyFar.NONE : v == 1 ? 1 : 9);
                }
            }
            compareFalses(z, round);
        }
    }

    /** Threes that share no PAIR need one false LENGTH each: three of them can be told, four can not. */
    private static void threeOrFourFalse() {
        int[][] threes = {{0, 1, 2}, {0, 3, 4}, {1, 3, 5}, {2, 4, 5}};
        OnlyFar x = Check.of("places 6;");
        for (int i = 0; i < threes.length; i++) {
            int[] t = threes[i];
            x.tell(t[0], t[1], 1);
            x.tell(t[0], t[2], 1);
            x.tell(t[1], t[2], 9);
            Check.due("falses(0)", x.falses(0), i < 3 ? i + 1 : OnlyFar.NONE);
        }
        Check.due("falses(1)", x.falses(1), OnlyFar.NONE);
        x.tell(2, 4, OnlyFar.NONE);
        Check.due("falses(0)", x.falses(0), 3);
        Check.due("falses(1), 1 2 5 can not be either", x.falses(1), 1 << x.pair(1, 2) | 1 << x.pair(0, 3) | 1 << x.pair(1, 3));
    }

    /** Tables by lot, against the words of the document tried one set after another by calls alone. */
    private static void falsesByTrial() {
        Check.Lot lot = new Check.Lot(41);
        for (int round = 0; round < 60; round++) {
            OnlyFar x = Land.spoiled(lot, lot.from(3, 6), lot.below(4));
            compareFalses(x, round);
        }
    }

    private static void compareFalses(OnlyFar x, int round) {
        int n = x.count(0);
        int[] far = Land.table(x);
        Check.due("wrong(0), " + round, x.wrong(0), Land.badThrees(far, n, 0));
        Check.due("wrong(1), " + round, x.wrong(1), Land.badFours(far, n, 0));
        int bestSet = -1;
        int now = Land.badThrees(far, n, 0) + Land.badFours(far, n, 0);
        int doubt = OnlyFar.NONE;
        int fewer = OnlyFar.NONE;
        for (int set = 0; set < 1 << n * (n - 1) / 2; set++) {
            int bits = Integer.bitCount(set);
            if (bits > 3) {
                continue;
            }
            int left = Land.badThrees(far, n, set) + Land.badFours(far, n, set);
            if (left == 0 && (bestSet < 0 || bits < Integer.bitCount(bestSet))) {
                bestSet = set;
            }
            if (bits == 1 && now - left > Math.max(0, fewer)) {
                doubt = Integer.numberOfTrailingZeros(set);
                fewer = now - left;
            }
        }
        Check.due("falses(0), " + round, x.falses(0), bestSet < 0 ? OnlyFar.NONE : Integer.bitCount(bestSet));
        Check.due("falses(1), " + round, x.falses(1), bestSet < 0 ? OnlyFar.NONE : bestSet);
        Check.due("doubt(0), " + round, x.doubt(0), doubt);
        Check.due("doubt(1), " + round, x.doubt(1), fewer);
    }

    private static void moreThanThree() {
        StringBuilder text = new StringBuilder("places 7;");
        for (int b = 1; b < 7; b++) {
            for (int a = 0; a < b; a++) {
                text.append("far ").append(a).append(' ').append(b).append(" 1;");
            }
        }
        OnlyFar x = Check.of(text.toString());
        Check.due("wrong(0)", x.wrong(0), 0);
        Check.due("wrong(1)", x.wrong(1), 35);
        Check.due("wrong(2)", x.wrong(2), 0);
        Check.due("wrong(3)", x.wrong(3), 35);
        Check.due("falses(0)", x.falses(0), OnlyFar.NONE);
        Check.due("falses(1)", x.falses(1), OnlyFar.NONE);
        Check.due("doubt(0)", x.doubt(0), 0);
        Check.due("doubt(1)", x.doubt(1), 10);
    }
}
