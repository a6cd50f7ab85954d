/** Promises 31 to 36: part, clear, road, reaches, keep, back. */
public final class RoadTest {
    public static void main(String[] args) {
        parts();
        reaching();
        images();
        Check.finish();
    }

    private static void parts() {
        OnlyFar x = new OnlyFar();
        Check.due("clear of none", x.clear(), 0);
        Check.due("road of none", x.road(0), OnlyFar.STATE);
        Check.due("road of none", x.road(1), OnlyFar.STATE);
        Check.due("road(2)", x.road(2), OnlyFar.BAD);
        Check.due("road(-1)", x.road(-1), OnlyFar.BAD);
        Check.due("part(0)", x.part(0), OnlyFar.BAD);
        Check.due("part(-4)", x.part(-4), OnlyFar.BAD);
        Check.due("part(100)", x.part(100), OnlyFar.BAD);
        Check.due("part(7)", x.part(7), 1);
        Check.due("road of one, 0", x.road(0), 7);
        Check.due("road of one, 1", x.road(1), 7);
        Check.due("part(7)", x.part(7), 2);
        Check.due("road folded", x.road(0), 0);
        Check.due("part(99)", x.part(99), 3);
        Check.due("road 0", x.road(0), 85);
        Check.due("road 1", x.road(1), 113);
        Check.due("part(1)", x.part(1), 4);
        Check.due("road 0", x.road(0), 84);
        for (int i = 5; i <= 8; i++) {
            Check.due("part(99)", x.part(99), i);
        }
        Check.due("part(99) of a full road", x.part(99), OnlyFar.FULL);
        Check.due("part(100) of a full road", x.part(100), OnlyFar.BAD);
        Check.due("road 0", x.road(0), 0);
        Check.due("road 1", x.road(1), 7 + 7 + 1 + 5 * 99);
        Check.due("clear", x.clear(), 8);
        Check.due("clear", x.clear(), 0);
        Check.due("part", x.part(3), 1);
    }

    private static void reaching() {
        OnlyFar x = Check.of("far 0 1 9;");
        Check.due("reaches without parts", x.reaches(0, 1), OnlyFar.STATE);
        Check.due("reaches without parts, a length", x.reaches(0, 2), OnlyFar.STATE);
        Check.due("reaches itself", x.reaches(1, 1), OnlyFar.BAD);
        Check.due("reaches no place", x.reaches(1, 3), OnlyFar.BAD);
        x.part(3);
        Check.due("reaches", x.reaches(1, 0), 1);
        Check.due("reaches without a length", x.reaches(0, 2), OnlyFar.NONE);
        int[][] squares = {{8, 0}, {10, 0}, {9, 1}};
        for (int[] s : squares) {
            x.tell(0, 1, s[0]);
            Check.due("reaches " + s[0], x.reaches(0, 1), s[1]);
        }
        x.part(5);
        int[][] wider = {{3, 0}, {4, 1}, {5, 1}, {64, 1}, {65, 0}};
        for (int[] s : wider) {
            x.tell(0, 1, s[0]);
            Check.due("reaches " + s[0], x.reaches(0, 1), s[1]);
        }
        x.part(99);
        x.tell(0, 1, 9999);
        Check.due("reaches 9999", x.reaches(0, 1), 1);
        x.clear();
        x.part(99);
        Check.due("reaches 9999", x.reaches(0, 1), 0);
        x.part(1);
        Check.due("reaches 9999", x.reaches(0, 1), 1);
    }

    private static void images() {
        OnlyFar x = Check.of("places 5;far 0 4 6;far 1 2 8;");
        Check.due("back to none", x.back(0), OnlyFar.STATE);
        Check.due("keep(2)", x.keep(2), OnlyFar.BAD);
        Check.due("keep(-1)", x.keep(-1), OnlyFar.BAD);
        Check.due("back(2)", x.back(2), OnlyFar.BAD);
        Check.due("back(-1)", x.back(-1), OnlyFar.BAD);
        x.part(4);
        Check.due("keep", x.keep(0), 0);
        x.part(5);
        x.tell(0, 4, OnlyFar.NONE);
        x.tell(0, 1, 2);
        x.tell(3, 1, 2);
        Check.due("keep", x.keep(1), 0);
        x.clear();
        x.part(99);
        Check.due("back", x.back(0), 2);
        Check.due("far(0, 4)", x.far(0, 4), 6);
        Check.due("far(0, 1)", x.far(0, 1), OnlyFar.NONE);
        Check.due("count(2)", x.count(2), 1);
        Check.due("road(1)", x.road(1), 4);
        Check.due("back", x.back(1), 3);
        Check.due("far(0, 4)", x.far(0, 4), OnlyFar.NONE);
        Check.due("far(0, 1)", x.far(0, 1), 2);
        Check.due("road(1)", x.road(1), 9);
        x.tell(0, 1, 3);
        x.part(1);
        Check.due("back again", x.back(1), 3);
        Check.due("far(0, 1)", x.far(0, 1), 2);
        Check.due("count(2)", x.count(2), 2);
        Check.due("keep over it", x.keep(0), 1);
        x.tell(1, 2, 1);
        Check.due("back", x.back(0), 3);
        Check.due("far(1, 2)", x.far(1, 2), 8);
        Check.due("count(3)", x.count(3), 2);
        x.feed(0);
        x.back(0);
        Check.due("back leaves the tape", x.count(4), 8);
    }
}
