import java.util.Arrays;

/** A land of places of which only the squares of their lengths are told. */
public final class OnlyFar {
    public static final int BAD = -1, STATE = -2, FULL = -3, NONE = -4;

    private static final long WIDE_BAD = -9000000000L, WIDE_STATE = -9000000001L;

    private static final int LEAST_PLACES = 2, FIRST_PLACES = 3, MOST_PLACES = 7;
    private static final int PAIRS = 21, NO_PAIR = -1, MOST_SQUARE = 9999;
    private static final int NO_END = 99999;
    private static final int TAPE_BYTES = 320, WORD_BYTES = 8;
    private static final int MOST_PARTS = 8, MOST_PART = 99;
    private static final int IMAGES = 2;
    private static final int SHEETS = 4, LANES = 3, MOST_CELLS = 40, MOST_READ = 13, CELLS_OF_LENGTH = 3;
    private static final int BYTES = 0, SHORTS = 1, NO_LANE = -1;
    private static final int NULL_FAULT = 1, INDEX_FAULT = 2, CAST_FAULT = 3, SIZE_FAULT = 4;
    private static final int MOST_FALSE = 3;

    private final Tape tape;
    private final Reader reader;
    private final Table table;
    private final Road way;
    private final Image[] images;
    private final Sheet[] sheets;
    private final Flaws flaws;
    private final Sixth sixthOf;
    private final Drawing drawing;
    private final Naming naming;
    private int lastFault;
    private int lastTear;

    public OnlyFar() {
        tape = new Tape();
        reader = new Reader(tape);
        table = new Table();
        way = new Road();
        images = new Image[IMAGES];
        for (int k = 0; k < IMAGES; k++) {
            images[k] = new Image();
        }
        sheets = new Sheet[SHEETS];
        for (int k = 0; k < SHEETS; k++) {
            sheets[k] = new Sheet();
        }
        flaws = new Flaws();
        sixthOf = new Sixth();
        drawing = new Drawing(table);
        naming = new Naming(table);
        lastFault = 0;
        lastTear = 0;
    }

    // ---- the text, the table

    public int feed(long v) {
        return tape.add(v) ? tape.length : FULL;
    }

    public int end(int n) {
        if (n < 0 || n > tape.length) {
            return BAD;
        }
        int had = tape.length;
        tape.length = n;
        return had;
    }

    public int land() {
        reader.readAll();
        tape.length = 0;
        lastFault = reader.fault;
        if (lastFault != 0) {
            return -10 - reader.faultAt;
        }
        table.copyFrom(reader.draft);
        way.parts = 0;
        for (int k = 0; k < IMAGES; k++) {
            images[k].kept = false;
        }
        return reader.lines;
    }

    public int fault() {
        return lastFault;
    }

    public int far(int a, int b) {
        return table.areTwo(a, b) ? table.toldOrNone(a, b) : BAD;
    }

    public int tell(int a, int b, int v) {
        if (!table.areTwo(a, b) || v != NONE && !isSquare(v)) {
            return BAD;
        }
        int was = table.toldOrNone(a, b);
        table.put(a, b, v == NONE ? 0 : v);
        return was;
    }

    public int pair(int a, int b) {
        return table.areTwo(a, b) ? pairOf(a, b) : BAD;
    }

    // ---- threes, fours

    public long wide(int a, int b, int c) {
        if (!table.areThree(a, b, c)) {
            return WIDE_BAD;
        }
        return table.isToldThree(a, b, c) ? table.wideOf(a, b, c) : WIDE_STATE;
    }

    public int three(int a, int b, int c) {
        if (!table.areThree(a, b, c)) {
            return BAD;
        }
        if (!table.isToldThree(a, b, c)) {
            return NONE;
        }
        return bit(table.canBeThree(a, b, c));
    }

    public int four(int a, int b, int c, int d) {
        if (!table.areFour(a, b, c, d)) {
            return BAD;
        }
        if (!table.isToldFour(a, b, c, d)) {
            return NONE;
        }
        return bit(table.canBeFour(a, b, c, d));
    }

    public int wrong(int what) {
        if (what < 0 || what > 3) {
            return BAD;
        }
        flaws.lookAt(table);
        switch (what) {
            case 0:
                return flaws.badThrees;
            case 1:
                return flaws.badFours;
            case 2:
                return flaws.flatThrees;
            default:
                return flaws.toldThrees;
        }
    }

    public int falses(int what) {
        if (what < 0 || what > 1) {
            return BAD;
        }
        flaws.lookAt(table);
        int set = flaws.fewestFalse();
        if (set == Flaws.NO_SET) {
            return NONE;
        }
        return what == 0 ? Integer.bitCount(set) : set;
    }

    public int doubt(int what) {
        if (what < 0 || what > 1) {
            return BAD;
        }
        flaws.lookAt(table);
        int most = flaws.mostDoubted();
        if (most == NO_PAIR) {
            return NONE;
        }
        return what == 0 ? most : flaws.flawsWith(most);
    }

    // ---- what lies how

    public int bend(int a, int b, int c) {
        if (!table.areThree(a, b, c)) {
            return BAD;
        }
        if (!table.isToldThree(a, b, c)) {
            return NONE;
        }
        long open = table.leaning(b, a, c);
        if (open == 0) {
            return 0;
        }
        return open > 0 ? 1 : 2;
    }

    public long foot(int a, int b, int c, int what) {
        long refusal = refusalOfThree(a, b, c, what);
        if (refusal != 0) {
            return refusal;
        }
        return lowest(table.leaning(a, b, c), 2L * table.square(a, b), what);
    }

    public long height(int a, int b, int c, int what) {
        long refusal = refusalOfThree(a, b, c, what);
        if (refusal != 0) {
            return refusal;
        }
        return lowest(table.wideOf(a, b, c), 4L * table.square(a, b), what);
    }

    public long round(int a, int b, int c, int what) {
        long refusal = refusalOfThree(a, b, c, what);
        if (refusal != 0) {
            return refusal;
        }
        long wide = table.wideOf(a, b, c);
        if (wide == 0) {
            return WIDE_STATE;
        }
        long product = (long) table.square(a, b) * table.square(a, c) * table.square(b, c);
        return lowest(product, wide, what);
    }

    public int side(int a, int b, int c, int d) {
        if (!table.areFour(a, b, c, d)) {
            return BAD;
        }
        if (!table.isToldFour(a, b, c, d) || !table.canBeFour(a, b, c, d)) {
            return STATE;
        }
        int sign = table.sideSign(a, b, c, d);
        return sign < 0 ? -5 : sign;
    }

    public int within(int a, int b, int c, int p) {
        if (!table.areFour(a, b, c, p)) {
            return BAD;
        }
        if (!table.isToldFour(a, b, c, p) || !table.canBeFour(a, b, c, p) || table.wideOf(a, b, c) == 0) {
            return STATE;
        }
        return bit(table.sideSign(a, b, c, p) >= 0
                && table.sideSign(b, c, a, p) >= 0
                && table.sideSign(a, c, b, p) >= 0);
    }

    // ---- what is missing

    public long sixth(int a, int b, int c, int d, int what) {
        if (!table.areFour(a, b, c, d) || what < 0 || what > 4) {
            return WIDE_BAD;
        }
        if (!table.isToldThree(a, c, d) || !table.isToldThree(b, c, d)
                || !table.canBeThree(a, c, d) || !table.canBeThree(b, c, d)) {
            return WIDE_STATE;
        }
        sixthOf.take(table, a, b, c, d);
        switch (what) {
            case 0:
                return sixthOf.middle;
            case 1:
                return sixthOf.spread;
            case 2:
                return sixthOf.divisor;
            default:
                return sixthOf.wholeLength(what == 3);
        }
    }

    public int ends(int a, int b, int what) {
        if (!table.areTwo(a, b) || what < 0 || what > 1) {
            return BAD;
        }
        int least = 0;
        int greatest = NO_END;
        for (int p = 0; p < table.places; p++) {
            int x = table.square(a, p);
            int y = table.square(b, p);
            if (x > 0 && y > 0) {
                int swing = (int) rootOf(4L * x * y);
                least = Math.max(least, x + y - swing);
                greatest = Math.min(greatest, x + y + swing);
            }
        }
        return what == 0 ? least : greatest;
    }

    // ---- drawings

    public int drawings(int a, int b, int what) {
        boolean ofPlace = table.isPlace(what - 10);
        if (!table.areTwo(a, b) || !ofPlace && (what < 0 || what > 3)) {
            return BAD;
        }
        if (table.square(a, b) == 0) {
            return STATE;
        }
        drawing.draw(a, b, NO_PAIR);
        switch (what) {
            case 0:
                return drawing.ways();
            case 1:
                return drawing.laid;
            case 2:
                return drawing.groups;
            case 3:
                return drawing.stands ? Math.max(0, drawing.groups - 1) : NONE;
            default:
                return drawing.stands && drawing.isLaid(what - 10) ? drawing.sideOf(what - 10) : NONE;
        }
    }

    public int spare(int a, int b, int c, int d) {
        if (!table.areTwo(a, b) || !table.areTwo(c, d)) {
            return BAD;
        }
        if (table.square(a, b) == 0) {
            return STATE;
        }
        drawing.draw(a, b, NO_PAIR);
        if (!drawing.isLaid(c) || !drawing.isLaid(d) || table.square(c, d) == 0) {
            return NONE;
        }
        int ways = drawing.ways();
        drawing.draw(a, b, pairOf(c, d));
        return bit(drawing.ways() == ways);
    }

    public int base() {
        int best = NONE;
        int mostLaid = 0;
        int fewestWays = 0;
        for (int b = 1; b < table.places; b++) {
            for (int a = 0; a < b; a++) {
                if (table.square(a, b) == 0) {
                    continue;
                }
                drawing.draw(a, b, NO_PAIR);
                int laid = Integer.bitCount(drawing.laid);
                int ways = drawing.ways();
                boolean better = best == NONE || laid > mostLaid || laid == mostLaid && ways < fewestWays;
                if (ways > 0 && better) {
                    best = pairOf(a, b);
                    mostLaid = laid;
                    fewestWays = ways;
                }
            }
        }
        return best;
    }

    // ---- told by lengths

    public int tells(int p, int some) {
        if (!table.isPlace(p) || some <= 0 || some >= 1 << table.places || hasBit(some, p)) {
            return BAD;
        }
        return bit(table.isToldBy(p, some));
    }

    public int words(int p, int what) {
        if (!table.isPlace(p) || what < 0 || what > 1) {
            return BAD;
        }
        int best = 0;
        for (int some = 1; some < 1 << table.places; some++) {
            boolean fewer = best == 0 || Integer.bitCount(some) < Integer.bitCount(best);
            if (fewer && !hasBit(some, p) && table.isToldBy(p, some)) {
                best = some;
            }
        }
        if (best == 0) {
            return NONE;
        }
        return what == 0 ? Integer.bitCount(best) : best;
    }

    public int at(int a, int n, int b, int m) {
        if (!table.areTwo(a, b) || !isSquare(n) || !isSquare(m)) {
            return BAD;
        }
        int found = 0;
        for (int p = 0; p < table.places; p++) {
            if (table.square(a, p) == n && table.square(b, p) == m) {
                found |= 1 << p;
            }
        }
        return found;
    }

    public int spots(int a, int n, int b, int m) {
        if (!table.areTwo(a, b) || !isSquare(n) || !isSquare(m)) {
            return BAD;
        }
        if (table.square(a, b) == 0) {
            return STATE;
        }
        return Long.signum(wideOfSquares(table.square(a, b), n, m)) + 1;
    }

    // ---- two tables

    public int maps(int k, int what) {
        boolean ofPlace = table.isPlace(what - 10);
        if (!isImage(k) || !ofPlace && what != 0) {
            return BAD;
        }
        if (!images[k].kept) {
            return STATE;
        }
        naming.compare(images[k].table, ofPlace);
        if (!ofPlace) {
            return naming.found;
        }
        return naming.found > 0 ? naming.nameOf(what - 10) : NONE;
    }

    // ---- a road

    public int part(int l) {
        if (l < 1 || l > MOST_PART) {
            return BAD;
        }
        return way.add(l) ? way.parts : FULL;
    }

    public int clear() {
        int had = way.parts;
        way.parts = 0;
        return had;
    }

    public int road(int what) {
        if (what < 0 || what > 1) {
            return BAD;
        }
        if (way.parts == 0) {
            return STATE;
        }
        return what == 0 ? way.nearest() : way.farthest();
    }

    public int reaches(int a, int b) {
        if (!table.areTwo(a, b)) {
            return BAD;
        }
        if (way.parts == 0) {
            return STATE;
        }
        int square = table.square(a, b);
        if (square == 0) {
            return NONE;
        }
        int near = way.nearest();
        int far = way.farthest();
        return bit(square >= near * near && square <= far * far);
    }

    // ---- images, sheets

    public int keep(int k) {
        if (!isImage(k)) {
            return BAD;
        }
        Image image = images[k];
        int was = bit(image.kept);
        image.table.copyFrom(table);
        image.way.copyFrom(way);
        image.kept = true;
        return was;
    }

    public int back(int k) {
        if (!isImage(k)) {
            return BAD;
        }
        Image image = images[k];
        if (!image.kept) {
            return STATE;
        }
        table.copyFrom(image.table);
        way.copyFrom(image.way);
        return table.countTold();
    }

    public int sheet(int k, int lane, int n) {
        if (!isSheet(k) || !isLane(lane) || n > MOST_CELLS) {
            return BAD;
        }
        if (n < 0) {
            return -10 - SIZE_FAULT;
        }
        sheets[k].renew(lane, n);
        return 1;
    }

    public int lay(int k, int i, int v) {
        if (!isSheet(k)) {
            return BAD;
        }
        int found = sheets[k].write(i, v);
        return found == 0 ? 1 : -10 - found;
    }

    public int read(int k, int lane, int f, int n) {
        if (!isSheet(k) || !isLane(lane) || n < 0 || n > MOST_READ) {
            return BAD;
        }
        Sheet row = sheets[k];
        int refusal = n == 0 ? 0 : row.faultAs(lane);
        int whole = refusal != 0 ? 0 : row.wholeLengths(f, n);
        for (int i = 0; i < whole; i++) {
            if (!isGoodLength(row, f + i * CELLS_OF_LENGTH)) {
                return -20 - i;
            }
        }
        for (int i = 0; i < whole; i++) {
            int cell = f + i * CELLS_OF_LENGTH;
            table.put(row.cell(cell), row.cell(cell + 1), row.cell(cell + 2));
        }
        lastTear = refusal == 0 && whole < n ? INDEX_FAULT : refusal;
        return whole;
    }

    public int torn() {
        return lastTear;
    }

    public int count(int what) {
        switch (what) {
            case 0:
                return table.places;
            case 1:
                return table.countTold();
            case 2:
                return way.parts;
            case 3:
                return bit(images[0].kept) + bit(images[1].kept);
            case 4:
                return tape.length;
            case 5:
                return sheets[0].lane == NO_LANE ? NONE : sheets[0].size;
            default:
                return BAD;
        }
    }

    // ---- what several calls ask

    private static int bit(boolean yes) {
        return yes ? 1 : 0;
    }

    private static boolean hasBit(int bits, int place) {
        return (bits >> place & 1) != 0;
    }

    private static boolean isSquare(int v) {
        return v >= 1 && v <= MOST_SQUARE;
    }

    private static boolean isImage(int k) {
        return k >= 0 && k < IMAGES;
    }

    private static boolean isSheet(int k) {
        return k >= 0 && k < SHEETS;
    }

    private static boolean isLane(int lane) {
        return lane >= 0 && lane < LANES;
    }

    private boolean isGoodLength(Sheet row, int cell) {
        return table.areTwo(row.cell(cell), row.cell(cell + 1)) && isSquare(row.cell(cell + 2));
    }

    /** Why no fraction of three PLACES can be told; 0 if it can. */
    private long refusalOfThree(int a, int b, int c, int what) {
        if (!table.areThree(a, b, c) || what < 0 || what > 1) {
            return WIDE_BAD;
        }
        if (!table.isToldThree(a, b, c) || !table.canBeThree(a, b, c)) {
            return WIDE_STATE;
        }
        return 0;
    }

    /** The PAIR of two unlike PLACES. */
    private static int pairOf(int a, int b) {
        int high = Math.max(a, b);
        return high * (high - 1) / 2 + Math.min(a, b);
    }

    private static long wideOfSquares(long ab, long ac, long bc) {
        long leaning = ab + ac - bc;
        return 4 * ab * ac - leaning * leaning;
    }

    /** The greatest whole number whose square is not above v (v below 2 to the 62nd). */
    private static long rootOf(long v) {
        long root = 0;
        for (int place = 30; place >= 0; place--) {
            long more = root | 1L << place;
            if (more * more <= v) {
                root = more;
            }
        }
        return root;
    }

    /** A fraction's numerator (what 0) or denominator in lowest terms; the divisor is above 0. */
    private static long lowest(long top, long divisor, int what) {
        long common = commonDivisor(Math.abs(top), divisor);
        if (common <= 0) {
            return 0;
        }
        return (what == 0 ? top : divisor) / common;
    }

    private static long commonDivisor(long x, long y) {
        long high = x;
        long low = y;
        // Euclid's remainders at least halve every second step, so a long needs fewer than 200.
        for (int step = 0; step < 200 && low != 0; step++) {
            long rest = high % low;
            high = low;
            low = rest;
        }
        return high;
    }

    /** Places and the squares of their lengths, by both places; 0 stands where none is told. */
    private static final class Table {
        int places;
        private final int[] squares;

        Table() {
            places = FIRST_PLACES;
            squares = new int[MOST_PLACES * MOST_PLACES];
        }

        void reset() {
            places = FIRST_PLACES;
            Arrays.fill(squares, 0);
        }

        void copyFrom(Table other) {
            places = other.places;
            System.arraycopy(other.squares, 0, squares, 0, squares.length);
        }

        boolean isPlace(int p) {
            return p >= 0 && p < places;
        }

        boolean areTwo(int a, int b) {
            return isPlace(a) && isPlace(b) && a != b;
        }

        boolean areThree(int a, int b, int c) {
            return areTwo(a, b) && areTwo(a, c) && b != c;
        }

        boolean areFour(int a, int b, int c, int d) {
            return areThree(a, b, c) && areThree(a, b, d) && c != d;
        }

        /** The square told; 0 if none is, and of a PLACE and itself. */
        int square(int a, int b) {
            if (a < 0 || a >= MOST_PLACES || b < 0 || b >= MOST_PLACES) {
                return 0;
            }
            return squares[a * MOST_PLACES + b];
        }

        int toldOrNone(int a, int b) {
            int square = square(a, b);
            return square == 0 ? NONE : square;
        }

        void put(int a, int b, int square) {
            if (a < 0 || a >= MOST_PLACES || b < 0 || b >= MOST_PLACES || a == b) {
                return;
            }
            squares[a * MOST_PLACES + b] = square;
            squares[b * MOST_PLACES + a] = square;
        }

        int countTold() {
            int told = 0;
            for (int b = 1; b < places; b++) {
                for (int a = 0; a < b; a++) {
                    told += bit(square(a, b) > 0);
                }
            }
            return told;
        }

        boolean isToldThree(int a, int b, int c) {
            return square(a, b) > 0 && square(a, c) > 0 && square(b, c) > 0;
        }

        boolean isToldFour(int a, int b, int c, int d) {
            return isToldThree(a, b, c) && isToldThree(a, b, d) && square(c, d) > 0;
        }

        /** ab and ac less bc: above 0 where the corner at a is sharp. */
        long leaning(int a, int b, int c) {
            return (long) square(a, b) + square(a, c) - square(b, c);
        }

        long wideOf(int a, int b, int c) {
            return wideOfSquares(square(a, b), square(a, c), square(b, c));
        }

        boolean canBeThree(int a, int b, int c) {
            return wideOf(a, b, c) >= 0;
        }

        boolean canBeFour(int a, int b, int c, int d) {
            return canBeThree(a, b, c) && canBeThree(a, b, d) && canBeThree(a, c, d) && canBeThree(b, c, d)
                    && isFlatFour(a, b, c, d);
        }

        /** The determinant is the same for whichever of the four stands first, so none is sought out as the least. */
        private boolean isFlatFour(int a, int b, int c, int d) {
            long bb = 2L * square(a, b);
            long cc = 2L * square(a, c);
            long dd = 2L * square(a, d);
            long bc = leaning(a, b, c);
            long bd = leaning(a, b, d);
            long cd = leaning(a, c, d);
            return bb * cc * dd + 2 * bc * bd * cd - bb * cd * cd - cc * bd * bd - dd * bc * bc == 0;
        }

        int sideSign(int a, int b, int c, int d) {
            return Long.signum(2L * square(a, b) * leaning(a, c, d) - leaning(a, b, c) * leaning(a, b, d));
        }

        /** Whether p has LENGTHS to all of some (p is none of them), and no other PLACE has the same ones. */
        boolean isToldBy(int p, int some) {
            for (int s = 0; s < places; s++) {
                if (hasBit(some, s) && square(p, s) == 0) {
                    return false;
                }
            }
            for (int other = 0; other < places; other++) {
                if (other != p && isAlikeSeenFrom(some, p, other)) {
                    return false;
                }
            }
            return true;
        }

        private boolean isAlikeSeenFrom(int some, int p, int other) {
            for (int s = 0; s < places; s++) {
                if (hasBit(some, s) && square(p, s) != square(other, s)) {
                    return false;
                }
            }
            return true;
        }
    }

    private static final class Road {
        int parts;
        final int[] lengths;

        Road() {
            parts = 0;
            lengths = new int[MOST_PARTS];
        }

        void copyFrom(Road other) {
            parts = other.parts;
            System.arraycopy(other.lengths, 0, lengths, 0, MOST_PARTS);
        }

        boolean add(int length) {
            if (parts < 0 || parts >= MOST_PARTS) {
                return false;
            }
            lengths[parts] = length;
            parts++;
            return true;
        }

        int farthest() {
            int sum = 0;
            for (int i = 0; i < parts && i < MOST_PARTS; i++) {
                sum += lengths[i];
            }
            return sum;
        }

        /** The other parts can at best fold back along the longest one. */
        int nearest() {
            int longest = 0;
            for (int i = 0; i < parts && i < MOST_PARTS; i++) {
                longest = Math.max(longest, lengths[i]);
            }
            return Math.max(0, 2 * longest - farthest());
        }
    }

    private static final class Image {
        boolean kept;
        final Table table;
        final Road way;

        Image() {
            kept = false;
            table = new Table();
            way = new Road();
        }
    }

    /** A row of one lane; its cells are held as ints already cut to that lane. */
    private static final class Sheet {
        int lane;
        int size;
        final int[] cells;

        Sheet() {
            lane = NO_LANE;
            size = 0;
            cells = new int[MOST_CELLS];
        }

        void renew(int newLane, int newSize) {
            lane = newLane;
            size = newSize;
            Arrays.fill(cells, 0);
        }

        /** The FAULT, or 0. */
        int write(int i, int v) {
            if (lane == NO_LANE) {
                return NULL_FAULT;
            }
            if (i < 0 || i >= size || i >= MOST_CELLS) {
                return INDEX_FAULT;
            }
            if (lane == BYTES) {
                cells[i] = (byte) v;
            } else if (lane == SHORTS) {
                cells[i] = (short) v;
            } else {
                cells[i] = v;
            }
            return 0;
        }

        int faultAs(int otherLane) {
            if (lane == NO_LANE) {
                return NULL_FAULT;
            }
            return lane == otherLane ? 0 : CAST_FAULT;
        }

        /** How many of n LENGTHS from a cell on are whole ahead of the first cell that there is not. */
        int wholeLengths(int from, int n) {
            if (from < 0 || from > size) {
                return 0;
            }
            return Math.min(n, (size - from) / CELLS_OF_LENGTH);
        }

        int cell(int i) {
            return i >= 0 && i < MOST_CELLS ? cells[i] : 0;
        }
    }

    private static final class Tape {
        int length;
        final byte[] bytes;

        Tape() {
            length = 0;
            bytes = new byte[TAPE_BYTES];
        }

        boolean add(long v) {
            if (length < 0 || length > TAPE_BYTES - WORD_BYTES) {
                return false;
            }
            for (int i = 0; i < WORD_BYTES; i++) {
                bytes[length + i] = (byte) (v >>> 56 - 8 * i);
            }
            length += WORD_BYTES;
            return true;
        }

        /** The byte at a place; -1 behind the end, which no TOKEN has a byte of. */
        int byteAt(int i) {
            return i >= 0 && i < length && i < TAPE_BYTES ? bytes[i] : -1;
        }
    }

    /** Reads a tape into a draft of a table, up to the first FAULT. */
    private static final class Reader {
        private static final int END = 0, BLANK = 1, NAME = 2, NUMBER = 3, SIGN = 4, NOTHING = 5;
        private static final int MOST_FIGURES = 4, MOST_PLACE = 6;
        private static final int NO_TOKEN = 1, NOT_THERE = 2, OUT_OF_BOUNDS = 3, SECOND_TIME = 4, NO_PLACE = 5;

        final Table draft;
        int lines;
        int fault;
        int faultAt;
        private final Tape tape;
        private boolean placesTold;
        private int greatestPlace;
        private int next;
        private int kind;
        private int start;
        private int value;

        Reader(Tape text) {
            tape = text;
            draft = new Table();
        }

        void readAll() {
            draft.reset();
            lines = 0;
            fault = 0;
            faultAt = 0;
            placesTold = false;
            greatestPlace = 0;
            next = 0;
            // A line has more than one byte, so that the end or a FAULT comes ahead of this bound.
            for (int i = 0; i < TAPE_BYTES; i++) {
                if (!readToken() || kind == END || !readLine()) {
                    break;
                }
                lines++;
            }
            if (fault == 0 && greatestPlace >= draft.places) {
                refuse(NO_PLACE, tape.length);
            }
        }

        private boolean readLine() {
            if (isName("places")) {
                return readPlaces() && readSign();
            }
            if (isName("far")) {
                return readFar() && readSign();
            }
            return refuse(NOT_THERE, start);
        }

        private boolean readPlaces() {
            if (placesTold) {
                return refuse(SECOND_TIME, start);
            }
            placesTold = true;
            if (!readNumber(LEAST_PLACES, MOST_PLACES)) {
                return false;
            }
            draft.places = value;
            return true;
        }

        private boolean readFar() {
            if (!readNumber(0, MOST_PLACE)) {
                return false;
            }
            int a = value;
            if (!readNumber(0, MOST_PLACE)) {
                return false;
            }
            int b = value;
            if (a == b) {
                return refuse(OUT_OF_BOUNDS, start);
            }
            if (draft.square(a, b) != 0) {
                return refuse(SECOND_TIME, start);
            }
            if (!readNumber(1, MOST_SQUARE)) {
                return false;
            }
            draft.put(a, b, value);
            greatestPlace = Math.max(greatestPlace, Math.max(a, b));
            return true;
        }

        private boolean readNumber(int least, int greatest) {
            if (!readToken()) {
                return false;
            }
            if (kind != NUMBER) {
                return refuse(NOT_THERE, start);
            }
            if (value < least || value > greatest) {
                return refuse(OUT_OF_BOUNDS, start);
            }
            return true;
        }

        private boolean readSign() {
            if (!readToken()) {
                return false;
            }
            return kind == SIGN || refuse(NOT_THERE, start);
        }

        /** Reads one TOKEN; the end of the tape counts as one. A NUMBER's value grows as its figures come. */
        private boolean readToken() {
            while (next < tape.length && kindAt(next) == BLANK) {
                next++;
            }
            start = next;
            kind = kindAt(start);
            if (kind == NOTHING) {
                return refuse(NO_TOKEN, start);
            }
            if (kind == SIGN) {
                next++;
                return true;
            }
            value = 0;
            while (next < tape.length && kindAt(next) == kind) {
                if (kind == NUMBER) {
                    if (next - start >= MOST_FIGURES) {
                        return refuse(NO_TOKEN, start);
                    }
                    value = value * 10 + tape.byteAt(next) - '0';
                }
                next++;
            }
            return true;
        }

        private int kindAt(int place) {
            if (place < 0 || place >= tape.length || place >= TAPE_BYTES) {
                return END;
            }
            int c = tape.bytes[place];
            if (c >= 'a' && c <= 'z') {
                return NAME;
            }
            if (c >= '0' && c <= '9') {
                return NUMBER;
            }
            if (c == ' ') {
                return BLANK;
            }
            return c == ';' ? SIGN : NOTHING;
        }

        private boolean isName(String word) {
            if (kind != NAME || next - start != word.length()) {
                return false;
            }
            for (int i = 0; i < word.length(); i++) {
                if (tape.byteAt(start + i) != word.charAt(i)) {
                    return false;
                }
            }
            return true;
        }

        /** Always false, so that a reading that fails can answer with it. */
        private boolean refuse(int which, int place) {
            fault = which;
            faultAt = place;
            return false;
        }
    }

    /** The threes and fours that can not be, each as bits of the PAIRS that it needs. */
    private static final class Flaws {
        static final int NO_SET = -1;
        private static final int MOST_FLAWS = 70;

        int badThrees;
        int badFours;
        int flatThrees;
        int toldThrees;
        private final int[] flaws;
        private int size;
        private int fewest;

        Flaws() {
            flaws = new int[MOST_FLAWS];
        }

        void lookAt(Table table) {
            badThrees = 0;
            badFours = 0;
            flatThrees = 0;
            toldThrees = 0;
            size = 0;
            for (int c = 2; c < table.places; c++) {
                for (int b = 1; b < c; b++) {
                    for (int a = 0; a < b; a++) {
                        lookAtThree(table, a, b, c);
                    }
                }
            }
        }

        private void lookAtThree(Table table, int a, int b, int c) {
            if (!table.isToldThree(a, b, c)) {
                return;
            }
            toldThrees++;
            long wide = table.wideOf(a, b, c);
            if (wide == 0) {
                flatThrees++;
            } else if (wide < 0) {
                badThrees++;
                add(pairsOfThree(a, b, c));
            }
            for (int d = c + 1; d < table.places; d++) {
                if (table.isToldFour(a, b, c, d) && !table.canBeFour(a, b, c, d)) {
                    badFours++;
                    add(pairsOfThree(a, b, c) | pairsOfThree(a, b, d) | 1 << pairOf(c, d));
                }
            }
        }

        private static int pairsOfThree(int a, int b, int c) {
            return 1 << pairOf(a, b) | 1 << pairOf(a, c) | 1 << pairOf(b, c);
        }

        private void add(int pairs) {
            if (size >= 0 && size < MOST_FLAWS) {
                flaws[size] = pairs;
                size++;
            }
        }

        int flawsWith(int pair) {
            int with = 0;
            for (int i = 0; i < size && i < MOST_FLAWS; i++) {
                with += bit(hasBit(flaws[i], pair));
            }
            return with;
        }

        int mostDoubted() {
            int best = NO_PAIR;
            int most = 0;
            for (int pair = 0; pair < PAIRS; pair++) {
                int with = flawsWith(pair);
                if (with > most) {
                    best = pair;
                    most = with;
                }
            }
            return best;
        }

        /** FALSE as bits of PAIRS; NO_SET if it has more than three. */
        int fewestFalse() {
            fewest = NO_SET;
            leaveOut(0, 0);
            return fewest;
        }

        /** Each set without flaws takes a PAIR of the first flaw that is left, so only these are tried. */
        private void leaveOut(int set, int depth) {
            int flaw = firstFlawWithout(set);
            if (flaw == 0) {
                if (isBetter(set)) {
                    fewest = set;
                }
                return;
            }
            if (depth >= MOST_FALSE) {
                return;
            }
            for (int pair = 0; pair < PAIRS; pair++) {
                if (hasBit(flaw, pair)) {
                    leaveOut(set | 1 << pair, depth + 1);
                }
            }
        }

        private int firstFlawWithout(int set) {
            for (int i = 0; i < size && i < MOST_FLAWS; i++) {
                if ((flaws[i] & set) == 0) {
                    return flaws[i];
                }
            }
            return 0;
        }

        private boolean isBetter(int set) {
            if (fewest == NO_SET) {
                return true;
            }
            int fewer = Integer.bitCount(fewest) - Integer.bitCount(set);
            return fewer > 0 || fewer == 0 && set < fewest;
        }
    }

    /** The length of a and b by the other five: (middle less or and the root of spread) by divisor. */
    private static final class Sixth {
        long middle;
        long spread;
        long divisor;

        void take(Table table, int a, int b, int c, int d) {
            divisor = 2L * table.square(c, d);
            middle = divisor * (table.square(c, a) + table.square(c, b))
                    - table.leaning(c, d, a) * table.leaning(c, d, b);
            spread = table.wideOf(a, c, d) * table.wideOf(b, c, d);
        }

        long wholeLength(boolean onOneSide) {
            long root = rootOf(spread);
            if (root * root != spread) {
                return NONE;
            }
            long top = onOneSide ? middle - root : middle + root;
            if (divisor <= 0 || top % divisor != 0) {
                return NONE;
            }
            return top / divisor;
        }
    }

    /** What can be drawn on a base: the LAID places, their GROUPS and the sides of the first DRAWING. */
    private static final class Drawing {
        private static final int NO_BOND = 0, NEVER = 1, SAME = 2, OTHER = 3, EITHER = 4;
        private static final int ON_LINE = 0, FIRST_SIDE = 1, SECOND_SIDE = 2;

        int laid;
        int groups;
        boolean stands;
        private final Table table;
        private final Sixth sixthOf;
        private final int[] sides;
        private final int[] bonds;
        private int offLine;

        Drawing(Table land) {
            table = land;
            sixthOf = new Sixth();
            sides = new int[MOST_PLACES];
            bonds = new int[MOST_PLACES * MOST_PLACES];
        }

        /** The LENGTH of the base must be told; that of the PAIR left out is not looked at. */
        void draw(int a, int b, int leftOut) {
            layPlaces(a, b);
            for (int q = 0; q < MOST_PLACES; q++) {
                for (int p = 0; p < MOST_PLACES; p++) {
                    boolean joined = table.square(p, q) > 0 && isLaid(p) && isLaid(q) && pairOf(p, q) != leftOut;
                    bonds[p * MOST_PLACES + q] = joined ? bondOf(p, q, a, b) : NO_BOND;
                }
            }
            findGroups();
            stands = true;
            for (int q = 0; q < MOST_PLACES; q++) {
                for (int p = 0; p < q; p++) {
                    stands = stands && holds(p, q);
                }
            }
        }

        int ways() {
            if (!stands) {
                return 0;
            }
            return groups > 1 ? 1 << (groups - 1) : 1;
        }

        boolean isLaid(int p) {
            return hasBit(laid, p);
        }

        int sideOf(int p) {
            return p >= 0 && p < MOST_PLACES ? sides[p] : ON_LINE;
        }

        private void layPlaces(int a, int b) {
            laid = 0;
            offLine = 0;
            for (int p = 0; p < table.places; p++) {
                if (!table.isToldThree(a, b, p)) {
                    continue;
                }
                long wide = table.wideOf(a, b, p);
                if (wide >= 0) {
                    laid |= 1 << p;
                }
                if (wide > 0) {
                    offLine |= 1 << p;
                }
            }
        }

        /** How two LAID places lie by the base a, b if their LENGTH is to be so. */
        private int bondOf(int p, int q, int a, int b) {
            sixthOf.take(table, p, q, a, b);
            long gap = sixthOf.middle - sixthOf.divisor * table.square(p, q);
            if (gap * gap != sixthOf.spread) {
                return NEVER;
            }
            if (gap == 0) {
                return EITHER;
            }
            return gap > 0 ? SAME : OTHER;
        }

        /** The least place of each group is put on the first side, and the others of it as it bids. */
        private void findGroups() {
            Arrays.fill(sides, ON_LINE);
            groups = 0;
            for (int p = 0; p < MOST_PLACES; p++) {
                if (hasBit(offLine, p) && sides[p] == ON_LINE) {
                    groups++;
                    sides[p] = FIRST_SIDE;
                    spreadSides();
                }
            }
        }

        private void spreadSides() {
            for (int turn = 0; turn < MOST_PLACES; turn++) {
                for (int p = 0; p < MOST_PLACES; p++) {
                    for (int q = 0; q < MOST_PLACES; q++) {
                        int bond = bonds[p * MOST_PLACES + q];
                        if (bond != NO_BOND && sides[p] != ON_LINE && sides[q] == ON_LINE && hasBit(offLine, q)) {
                            sides[q] = bond == OTHER ? FIRST_SIDE + SECOND_SIDE - sides[p] : sides[p];
                        }
                    }
                }
            }
        }

        private boolean holds(int p, int q) {
            switch (bonds[p * MOST_PLACES + q]) {
                case NEVER:
                    return false;
                case SAME:
                    return sides[p] == sides[q];
                case OTHER:
                    return sides[p] != sides[q];
                default:
                    return true;
            }
        }
    }

    /** The MAPS of a table to another one. */
    private static final class Naming {
        int found;
        private final Table from;
        private Table to;
        private final int[] first;
        private final int[] trial;
        private int used;
        private boolean firstOnly;

        Naming(Table own) {
            from = own;
            to = own;
            first = new int[MOST_PLACES];
            trial = new int[MOST_PLACES];
        }

        void compare(Table other, boolean onlyTheFirst) {
            to = other;
            firstOnly = onlyTheFirst;
            found = 0;
            used = 0;
            if (from.places == to.places) {
                nameFrom(0);
            }
        }

        int nameOf(int p) {
            return p >= 0 && p < MOST_PLACES ? first[p] : NONE;
        }

        private void nameFrom(int p) {
            if (p >= from.places || p >= MOST_PLACES) {
                if (found == 0) {
                    System.arraycopy(trial, 0, first, 0, MOST_PLACES);
                }
                found++;
                return;
            }
            for (int name = 0; name < to.places; name++) {
                if (firstOnly && found > 0) {
                    return;
                }
                if (!hasBit(used, name) && fits(p, name)) {
                    trial[p] = name;
                    used |= 1 << name;
                    nameFrom(p + 1);
                    used &= ~(1 << name);
                }
            }
        }

        /** Whether p, so called, has the LENGTHS to the PLACES named ahead of it that it must have. */
        private boolean fits(int p, int name) {
            for (int q = 0; q < p && q < MOST_PLACES; q++) {
                if (from.square(p, q) != to.square(name, trial[q])) {
                    return false;
                }
            }
            return true;
        }
    }
}
