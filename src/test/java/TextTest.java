/** Promises 2 to 5: feed, end, land, fault. */
public final class TextTest {
    public static void main(String[] args) {
        tape();
        takenTexts();
        noToken();
        notThere();
        outOfBounds();
        secondTime();
        noSuchPlace();
        order();
        whatIsGone();
        Check.finish();
    }

    private static void tape() {
        OnlyFar x = new OnlyFar();
        Check.due("fault() at first", x.fault(), 0);
        Check.due("end(0)", x.end(0), 0);
        Check.due("end(1)", x.end(1), OnlyFar.BAD);
        Check.due("end(-1)", x.end(-1), OnlyFar.BAD);
        for (int i = 1; i <= 40; i++) {
            Check.due("feed " + i, x.feed(0x2020202020202020L), 8 * i);
        }
        Check.due("feed 41", x.feed(0L), OnlyFar.FULL);
        Check.due("count(4)", x.count(4), 320);
        Check.due("end(321)", x.end(321), OnlyFar.BAD);
        Check.due("end(313)", x.end(313), 320);
        Check.due("feed at 313", x.feed(0L), OnlyFar.FULL);
        Check.due("end(312)", x.end(312), 313);
        Check.due("feed at 312", x.feed(0x2020202020202021L), 320);
        Check.due("end(320)", x.end(320), 320);
        Check.due("land", x.land(), -329);
        Check.due("fault", x.fault(), 1);
        Check.due("count(4)", x.count(4), 0);
        Check.due("feed", x.feed(-1L), 8);
        Check.due("land", x.land(), -10);
        Check.due("fault", x.fault(), 1);
        Check.due("land of nothing", x.land(), 0);
        Check.due("fault", x.fault(), 0);
    }

    private static void takenTexts() {
        OnlyFar x = new OnlyFar();
        Check.due("land", Check.land(x, "  places7;far6 5 0009;far 0  1   9999 ;  "), 3);
        Check.due("count(0)", x.count(0), 7);
        Check.due("count(1)", x.count(1), 2);
        Check.due("far(5, 6)", x.far(5, 6), 9);
        Check.due("far(0, 1)", x.far(0, 1), 9999);
        Check.due("land", Check.land(x, "places 2;"), 1);
        Check.due("count(0)", x.count(0), 2);
        Check.due("count(1)", x.count(1), 0);
        Check.due("land", Check.land(x, "far 1 2 1;"), 1);
        Check.due("count(0)", x.count(0), 3);
        Check.due("far(2, 1)", x.far(2, 1), 1);
        Check.due("land", Check.land(x, "    "), 0);
        Check.due("far(2, 1)", x.far(2, 1), OnlyFar.NONE);
        Check.due("land", Check.land(x, "far 4 0 8;places 5;far 3 0 2;"), 3);
        Check.due("far(0, 4)", x.far(0, 4), 8);
        Check.due("land", Check.land(x, "places 0002;"), 1);
        StringBuilder all = new StringBuilder("places 7;");
        for (int b = 1; b < 7; b++) {
            for (int a = 0; a < b; a++) {
                all.append("far ").append(b).append(' ').append(a).append(' ').append(b * 100 + a + 1).append(';');
            }
        }
        Check.due("land of all", Check.land(x, all.toString()), 22);
        Check.due("count(1)", x.count(1), 21);
        Check.due("far(2, 6)", x.far(2, 6), 603);
    }

    private static void noToken() {
        Check.refused("!", 1, 0);
        Check.refused("places 3\n;", 1, 8);
        Check.refused("places 3;\t", 1, 9);
        Check.refused("Places 3;", 1, 0);
        Check.refused("pLaces 3;", 2, 0);
        Check.refused("places -3;", 1, 7);
        Check.refused("places 00003;", 1, 7);
        Check.refused("12345;", 1, 0);
        Check.refused("far 0 1 123456;", 1, 8);
        Check.refused("far 0 1 5 12345", 1, 10);
        Check.refused("places 3;" + (char) 0, 1, 9);
        Check.refused("places 3;" + (char) 255, 1, 9);
        Check.refused("places 3;" + (char) 160, 1, 9);
        Check.refused("places 3;" + (char) ('a' + 128), 1, 9);
        Check.refused("far 0 1 5:", 1, 9);
        Check.refused("far 0 1 5/", 1, 9);
        Check.refused("{", 1, 0);
        Check.refused("`", 1, 0);
    }

    private static void notThere() {
        Check.refused(";", 2, 0);
        Check.refused("7", 2, 0);
        Check.refused("  road 7;", 2, 2);
        Check.refused("place 3;", 2, 0);
        Check.refused("xlaces 3;", 2, 0);
        Check.refused("bar 0 1 5;", 2, 0);
        Check.refused("z", 2, 0);
        Check.refused("a", 2, 0);
        Check.refused("placess 3;", 2, 0);
        Check.refused("fa 0 1 5;", 2, 0);
        Check.refused("placesfar 0 1 5;", 2, 0);
        Check.refused("places", 2, 6);
        Check.refused("places   ", 2, 9);
        Check.refused("places;", 2, 6);
        Check.refused("places far", 2, 7);
        Check.refused("places 3", 2, 8);
        Check.refused("places 3 4;", 2, 9);
        Check.refused("places 3 far 0 1 5;", 2, 9);
        Check.refused("places 3;;", 2, 9);
        Check.refused("far", 2, 3);
        Check.refused("far 0", 2, 5);
        Check.refused("far 01 5;", 2, 8);
        Check.refused("far 0 1", 2, 7);
        Check.refused("far 0 1;", 2, 7);
        Check.refused("far 0 1 5", 2, 9);
        Check.refused("far 0 1 5 5;", 2, 10);
        Check.refused("far 0;", 2, 5);
        Check.refused("far;", 2, 3);
    }

    private static void outOfBounds() {
        Check.refused("places 1;", 3, 7);
        Check.refused("places 0;", 3, 7);
        Check.refused("places 8;", 3, 7);
        Check.refused("places 9999", 3, 7);
        Check.refused("far 7 0 5;", 3, 4);
        Check.refused("far 0 7 5;", 3, 6);
        Check.refused("far 6 6 5;", 3, 6);
        Check.refused("far 0 1 0;", 3, 8);
        Check.refused("far 0 1 0000;", 3, 8);
    }

    private static void secondTime() {
        Check.refused("places 3;places 3;", 4, 9);
        Check.refused("places 3;far 0 1 5; places", 4, 20);
        Check.refused("far 0 1 5;far 0 1 6;", 4, 16);
        Check.refused("far 0 1 5;far 1 0 5;", 4, 16);
        Check.refused("far 6 5 5;far 5 6 ", 4, 16);
    }

    private static void noSuchPlace() {
        Check.refused("far 0 3 5;", 5, 10);
        Check.refused("far 0 3 5;  ", 5, 12);
        Check.refused("places 6;far 6 0 5;", 5, 19);
        Check.refused("far 6 0 5;places 6;", 5, 19);
        Check.refused("places 2;far 1 2 5;far 0 1 4;", 5, 29);
    }

    /** Each TOKEN is looked at ahead of the next one's reading. */
    private static void order() {
        Check.refused("places 8!", 3, 7);
        Check.refused("places 3;places!", 4, 9);
        Check.refused("far 7!", 3, 4);
        Check.refused("far 0 0!", 3, 6);
        Check.refused("far 0 1 5;far 1 0!", 4, 16);
        Check.refused("far 0 1 5;far 1 0 0;", 4, 16);
        Check.refused("far 0 6 5;oak", 2, 10);
        Check.refused("oak!", 2, 0);
        Check.refused("far 0 6 5;!", 1, 10);
    }

    private static void whatIsGone() {
        OnlyFar x = Check.of("places 4;far 0 3 7;");
        x.part(5);
        x.keep(0);
        x.keep(1);
        x.sheet(0, 1, 6);
        x.lay(0, 2, 77);
        x.read(0, 1, 7, 1);
        Check.due("torn", x.torn(), 2);
        Check.due("land", x.land(), 0);
        Check.due("count(2)", x.count(2), 0);
        Check.due("count(3)", x.count(3), 0);
        Check.due("back(0)", x.back(0), OnlyFar.STATE);
        Check.due("count(5)", x.count(5), 6);
        x.lay(0, 1, 1);
        Check.due("read", x.read(0, 1, 0, 1), 1);
        Check.due("far(0, 1)", x.far(0, 1), 77);
        Check.land(x, "oak");
        Check.due("fault", x.fault(), 2);
        x.land();
        Check.due("fault", x.fault(), 0);
    }
}
