import java.math.BigInteger;
import java.util.ArrayList;
import java.util.Arrays;
import java.util.List;
import java.util.Map;

/** The calls that only ask of THE TABLE, a second time: each by trying out the document's words, in numbers without an end. */
final class Asked {
    private static final int BAD = -1, STATE = -2, NONE = -4, PAIRS = 21;
    private static final long LONG_BAD = -9000000000L, LONG_STATE = -9000000001L;
    private static final List<Integer> UP_TO_THREE_PAIRS = upToThreePairs();

    private final int places;
    private final Map<Integer, Integer> told;

    Asked(int places, Map<Integer, Integer> squaresByPairs) {
        this.places = places;
        told = squaresByPairs;
    }

    long ask(String name, int[] v) {
        return switch (name) {
            case "wide" -> !unlike(v[0], v[1], v[2]) ? LONG_BAD : !allTold(v[0], v[1], v[2]) ? LONG_STATE : wide(v[0], v[1], v[2]);
            case "three" -> whether(Arrays.copyOf(v, 3));
            case "four" -> whether(Arrays.copyOf(v, 4));
            case "wrong" -> wrong(v[0]);
            case "falses" -> falses(v[0]);
            case "doubt" -> doubt(v[0]);
            case "bend" -> bend(v[0], v[1], v[2]);
            case "foot", "height", "round" -> fraction(name, v[0], v[1], v[2], v[3]);
            case "side" -> side(v[0], v[1], v[2], v[3]);
            case "within" -> within(v[0], v[1], v[2], v[3]);
            case "sixth" -> sixth(v[0], v[1], v[2], v[3], v[4]);
            case "ends" -> ends(v[0], v[1], v[2]);
            case "drawings" -> drawings(v[0], v[1], v[2]);
            case "spare" -> spare(v[0], v[1], v[2], v[3]);
            case "base" -> base();
            case "tells" -> tells(v[0], v[1]);
            case "words" -> words(v[0], v[1]);
            case "at" -> at(v[0], v[1], v[2], v[3]);
            case "spots" -> spots(v[0], v[1], v[2], v[3]);
            default -> throw new IllegalArgumentException(name);
        };
    }

    static int pair(int a, int b) {
        int less = Math.min(a, b);
        int more = Math.max(a, b);
        return more * (more - 1) / 2 + less;
    }

    private boolean isPlace(int p) {
        return p >= 0 && p < places;
    }

    private boolean unlike(int... some) {
        return Arrays.stream(some).allMatch(this::isPlace) && Arrays.stream(some).distinct().count() == some.length;
    }

    /** The square of the LENGTH; 0 of a PLACE and itself. Only of what is told. */
    private int far(int a, int b) {
        return a == b ? 0 : told.get(pair(a, b));
    }

    private boolean isTold(int a, int b) {
        return a != b && told.containsKey(pair(a, b));
    }

    private boolean allTold(int... some) {
        for (int a : some) {
            for (int b : some) {
                if (a != b && !isTold(a, b)) {
                    return false;
                }
            }
        }
        return true;
    }

    private static BigInteger big(long v) {
        return BigInteger.valueOf(v);
    }

    private long wide(int a, int b, int c) {
        BigInteger ab = big(far(a, b));
        BigInteger ac = big(far(a, c));
        BigInteger bc = big(far(b, c));
        return big(4).multiply(ab).multiply(ac).subtract(ab.add(ac).subtract(bc).pow(2)).longValueExact();
    }

    /** The PLACES of bits. */
    private static int[] of(int bits) {
        int[] some = new int[Integer.bitCount(bits)];
        for (int p = 0, i = 0; i < some.length; p++) {
            if ((bits >> p & 1) != 0) {
                some[i++] = p;
            }
        }
        return some;
    }

    private boolean canBe(int... some) {
        if (some.length == 3) {
            return wide(some[0], some[1], some[2]) >= 0;
        }
        int[] p = some.clone();
        Arrays.sort(p);
        return canBe(p[0], p[1], p[2]) && canBe(p[0], p[1], p[3]) && canBe(p[0], p[2], p[3]) && canBe(p[1], p[2], p[3])
                && determinant(p[0], p[1], p[2], p[3]).signum() == 0;
    }

    private BigInteger determinant(int a, int... others) {
        BigInteger[][] row = new BigInteger[3][3];
        for (int i = 0; i < 3; i++) {
            for (int j = 0; j < 3; j++) {
                row[i][j] = big(far(a, others[i]) + far(a, others[j]) - far(others[i], others[j]));
            }
        }
        BigInteger sum = BigInteger.ZERO;
        for (int j = 0; j < 3; j++) {
            int k = (j + 1) % 3;
            int l = (j + 2) % 3;
            sum = sum.add(row[0][j].multiply(row[1][k].multiply(row[2][l]).subtract(row[1][l].multiply(row[2][k]))));
        }
        return sum;
    }

    private int whether(int[] some) {
        return !unlike(some) ? BAD : !allTold(some) ? NONE : canBe(some) ? 1 : 0;
    }

    /** The threes or fours, all told. */
    private List<int[]> choices(int many) {
        List<int[]> found = new ArrayList<>();
        for (int bits = 0; bits < 1 << places; bits++) {
            if (Integer.bitCount(bits) == many && allTold(of(bits))) {
                found.add(of(bits));
            }
        }
        return found;
    }

    private int wrong(int what) {
        return (int) switch (what) {
            case 0 -> choices(3).stream().filter(t -> !canBe(t)).count();
            case 1 -> choices(4).stream().filter(t -> !canBe(t)).count();
            case 2 -> choices(3).stream().filter(t -> wide(t[0], t[1], t[2]) == 0).count();
            case 3 -> choices(3).size();
            default -> BAD;
        };
    }

    /** The PAIRS (bits) of each three and four that can not be. */
    private List<Integer> flaws() {
        List<int[]> all = choices(3);
        all.addAll(choices(4));
        List<Integer> found = new ArrayList<>();
        for (int[] some : all) {
            if (canBe(some)) {
                continue;
            }
            int pairs = 0;
            for (int a : some) {
                for (int b : some) {
                    pairs |= a < b ? 1 << pair(a, b) : 0;
                }
            }
            found.add(pairs);
        }
        return found;
    }

    private static long without(List<Integer> flaws, int pairs) {
        return flaws.stream().filter(f -> (f & pairs) == 0).count();
    }

    /** The fewest first, and of as many the least bits. */
    private static List<Integer> upToThreePairs() {
        List<Integer> sets = new ArrayList<>();
        for (int bits = 0; bits < 1 << PAIRS; bits++) {
            if (Integer.bitCount(bits) <= 3) {
                sets.add(bits);
            }
        }
        sets.sort((x, y) -> Integer.bitCount(x) != Integer.bitCount(y) ? Integer.bitCount(x) - Integer.bitCount(y) : x - y);
        return sets;
    }

    private int falses(int what) {
        if (what != 0 && what != 1) {
            return BAD;
        }
        List<Integer> flaws = flaws();
        for (int set : UP_TO_THREE_PAIRS) {
            if (without(flaws, set) == 0) {
                return what == 0 ? Integer.bitCount(set) : set;
            }
        }
        return NONE;
    }

    private int doubt(int what) {
        if (what != 0 && what != 1) {
            return BAD;
        }
        List<Integer> flaws = flaws();
        int best = NONE;
        long left = flaws.size();
        for (int pair = 0; pair < PAIRS; pair++) {
            if (without(flaws, 1 << pair) < left) {
                left = without(flaws, 1 << pair);
                best = pair;
            }
        }
        return best == NONE || what == 0 ? best : (int) (flaws.size() - left);
    }

    private int bend(int a, int b, int c) {
        if (!unlike(a, b, c) || !allTold(a, b, c)) {
            return unlike(a, b, c) ? NONE : BAD;
        }
        int open = Integer.compare(far(a, b) + far(b, c), far(a, c));
        return open < 0 ? 2 : open;
    }

    private long fraction(String name, int a, int b, int c, int what) {
        if (!unlike(a, b, c) || what != 0 && what != 1) {
            return LONG_BAD;
        }
        if (!allTold(a, b, c) || !canBe(a, b, c) || name.equals("round") && wide(a, b, c) == 0) {
            return LONG_STATE;
        }
        BigInteger ab = big(far(a, b));
        BigInteger top = switch (name) {
            case "foot" -> big(far(a, b) + far(a, c) - far(b, c));
            case "height" -> big(wide(a, b, c));
            default -> ab.multiply(big(far(a, c))).multiply(big(far(b, c)));
        };
        BigInteger by = switch (name) {
            case "foot" -> ab.multiply(big(2));
            case "height" -> ab.multiply(big(4));
            default -> big(wide(a, b, c));
        };
        return (what == 0 ? top : by).divide(top.gcd(by)).longValueExact();
    }

    private int side(int a, int b, int c, int d) {
        if (!unlike(a, b, c, d)) {
            return BAD;
        }
        if (!allTold(a, b, c, d) || !canBe(a, b, c, d)) {
            return STATE;
        }
        BigInteger left = big(2L * far(a, b)).multiply(big(far(a, c) + far(a, d) - far(c, d)));
        BigInteger right = big(far(a, b) + far(a, c) - far(b, c)).multiply(big(far(a, b) + far(a, d) - far(b, d)));
        return left.compareTo(right) < 0 ? -5 : left.compareTo(right);
    }

    /** p is a, and s parts of the way to b, and t of the way to c: within, if neither is below 0 and both are at most 1 in sum. */
    private int within(int a, int b, int c, int p) {
        if (!unlike(a, b, c, p)) {
            return BAD;
        }
        if (!allTold(a, b, c, p) || !canBe(a, b, c, p) || wide(a, b, c) == 0) {
            return STATE;
        }
        long bb = 2L * far(a, b);
        long cc = 2L * far(a, c);
        long bc = far(a, b) + far(a, c) - far(b, c);
        long pb = far(a, p) + far(a, b) - far(p, b);
        long pc = far(a, p) + far(a, c) - far(p, c);
        long s = pb * cc - pc * bc;
        long t = pc * bb - pb * bc;
        return s >= 0 && t >= 0 && s + t <= bb * cc - bc * bc ? 1 : 0;
    }

    private BigInteger sixthN(int a, int b, int c, int d) {
        BigInteger twice = big(2L * far(c, d)).multiply(big(far(c, a) + far(c, b)));
        return twice.subtract(big(far(c, d) + far(c, a) - far(d, a)).multiply(big(far(c, d) + far(c, b) - far(d, b))));
    }

    private BigInteger sixthM(int a, int b, int c, int d) {
        return big(wide(a, c, d)).multiply(big(wide(b, c, d)));
    }

    private long sixth(int a, int b, int c, int d, int what) {
        if (!unlike(a, b, c, d) || what < 0 || what > 4) {
            return LONG_BAD;
        }
        if (!allTold(a, c, d) || !allTold(b, c, d) || !canBe(a, c, d) || !canBe(b, c, d)) {
            return LONG_STATE;
        }
        BigInteger n = sixthN(a, b, c, d);
        BigInteger m = sixthM(a, b, c, d);
        BigInteger by = big(2L * far(c, d));
        if (what < 3) {
            return (what == 0 ? n : what == 1 ? m : by).longValueExact();
        }
        BigInteger[] root = m.sqrtAndRemainder();
        BigInteger[] whole = (what == 3 ? n.subtract(root[0]) : n.add(root[0])).divideAndRemainder(by);
        return root[1].signum() != 0 || whole[1].signum() != 0 ? NONE : whole[0].longValueExact();
    }

    /** v is from x and y less 2 r to x and y and 2 r, if it is not further than 2 r from x and y; r is the root of x times y. */
    private int ends(int a, int b, int what) {
        if (!unlike(a, b) || what != 0 && what != 1) {
            return BAD;
        }
        int least = 0;
        int greatest = 99999;
        for (int third = 0; third < places; third++) {
            if (!isTold(a, third) || !isTold(b, third)) {
                continue;
            }
            long x = far(a, third);
            long y = far(b, third);
            int down = (int) (x + y);
            while ((down - 1 - x - y) * (down - 1 - x - y) <= 4 * x * y) {
                down--;
            }
            int up = (int) (x + y);
            while ((up + 1 - x - y) * (up + 1 - x - y) <= 4 * x * y) {
                up++;
            }
            least = Math.max(least, down);
            greatest = Math.min(greatest, up);
        }
        return what == 0 ? least : greatest;
    }

    /** What the document tells of a base, found by putting the LAID PLACES on sides in all ways. */
    private final class Base {
        final int a;
        final int b;
        final int leftOut;
        int laid = 0;
        int off = 0;
        int ways = 0;
        int someSides = 0;

        Base(int a, int b, int leftOut) {
            this.a = a;
            this.b = b;
            this.leftOut = leftOut;
            for (int p = 0; p < places; p++) {
                if (unlike(a, b, p) && allTold(a, b, p) && canBe(a, b, p)) {
                    laid |= 1 << p;
                    off |= wide(a, b, p) > 0 ? 1 << p : 0;
                }
            }
            for (int sides = 0; sides < 1 << places; sides++) {
                if ((sides & ~off) == 0 && holds(sides)) {
                    ways++;
                    someSides = sides;
                }
            }
            ways = off == 0 ? ways : ways / 2;
        }

        private boolean joined(int p, int q) {
            return isTold(p, q) && pair(p, q) != leftOut;
        }

        private int sideOf(int sides, int p) {
            return (off >> p & 1) == 0 ? 0 : (sides >> p & 1) == 0 ? 1 : -1;
        }

        private boolean holds(int sides) {
            for (int p : of(laid)) {
                for (int q : of(laid)) {
                    if (p >= q || !joined(p, q)) {
                        continue;
                    }
                    BigInteger gap = sixthN(p, q, a, b).subtract(big(2L * far(a, b) * far(p, q)));
                    boolean asBySixth = gap.pow(2).equals(sixthM(p, q, a, b));
                    if (!asBySixth || gap.signum() != sideOf(sides, p) * sideOf(sides, q)) {
                        return false;
                    }
                }
            }
            return true;
        }

        /** The bits of the GROUP of a PLACE off the line. */
        int group(int k) {
            int group = 1 << k;
            for (int turn = 0; turn < places; turn++) {
                for (int p : of(group)) {
                    for (int q : of(off)) {
                        group |= joined(p, q) ? 1 << q : 0;
                    }
                }
            }
            return group;
        }

        int groups() {
            return (int) Arrays.stream(of(off)).map(this::group).distinct().count();
        }

        int side(int k) {
            if ((laid >> k & 1) == 0) {
                return NONE;
            }
            if ((off >> k & 1) == 0) {
                return 0;
            }
            int least = of(group(k))[0];
            return sideOf(someSides, least) == sideOf(someSides, k) ? 1 : 2;
        }
    }

    private int drawings(int a, int b, int what) {
        boolean side = what >= 10 && what < 10 + places;
        if (!unlike(a, b) || !side && (what < 0 || what > 3)) {
            return BAD;
        }
        if (!isTold(a, b)) {
            return STATE;
        }
        Base base = new Base(a, b, -1);
        return switch (what) {
            case 0 -> base.ways;
            case 1 -> base.laid;
            case 2 -> base.groups();
            case 3 -> base.ways == 0 ? NONE : Math.max(0, base.groups() - 1);
            default -> base.ways == 0 ? NONE : base.side(what - 10);
        };
    }

    private int spare(int a, int b, int c, int d) {
        if (!unlike(a, b) || !unlike(c, d)) {
            return BAD;
        }
        if (!isTold(a, b)) {
            return STATE;
        }
        Base base = new Base(a, b, -1);
        if ((base.laid >> c & base.laid >> d & 1) == 0 || !isTold(c, d)) {
            return NONE;
        }
        return new Base(a, b, pair(c, d)).ways == base.ways ? 1 : 0;
    }

    private int base() {
        List<int[]> found = new ArrayList<>();
        for (int b = 0; b < places; b++) {
            for (int a = 0; a < b; a++) {
                if (isTold(a, b)) {
                    Base base = new Base(a, b, -1);
                    if (base.ways > 0) {
                        found.add(new int[] {-Integer.bitCount(base.laid), base.ways, pair(a, b)});
                    }
                }
            }
        }
        return found.stream().min(Arrays::compare).map(f -> f[2]).orElse(NONE);
    }

    private boolean isToldBy(int p, int some) {
        for (int s : of(some)) {
            if (!isTold(p, s)) {
                return false;
            }
        }
        for (int other = 0; other < places; other++) {
            int o = other;
            if (o != p && Arrays.stream(of(some)).allMatch(s -> (o == s || isTold(o, s)) && far(o, s) == far(p, s))) {
                return false;
            }
        }
        return true;
    }

    private int tells(int p, int some) {
        if (!isPlace(p) || some < 1 || some > (1 << places) - 1 || (some >> p & 1) != 0) {
            return BAD;
        }
        return isToldBy(p, some) ? 1 : 0;
    }

    private int words(int p, int what) {
        if (!isPlace(p) || what != 0 && what != 1) {
            return BAD;
        }
        for (int many = 1; many < places; many++) {
            for (int some = 1; some < 1 << places; some++) {
                if (Integer.bitCount(some) == many && (some >> p & 1) == 0 && isToldBy(p, some)) {
                    return what == 0 ? many : some;
                }
            }
        }
        return NONE;
    }

    private static boolean isSquare(int v) {
        return v >= 1 && v <= 9999;
    }

    private int at(int a, int n, int b, int m) {
        if (!unlike(a, b) || !isSquare(n) || !isSquare(m)) {
            return BAD;
        }
        int found = 0;
        for (int p = 0; p < places; p++) {
            found |= isTold(a, p) && isTold(b, p) && far(a, p) == n && far(b, p) == m ? 1 << p : 0;
        }
        return found;
    }

    /** By the angle at the spot: there is one, if n and m less the LENGTH is at most twice the root of n times m, either way. */
    private int spots(int a, int n, int b, int m) {
        if (!unlike(a, b) || !isSquare(n) || !isSquare(m)) {
            return BAD;
        }
        if (!isTold(a, b)) {
            return STATE;
        }
        long open = n + m - far(a, b);
        return 1 + Long.compare(4L * n * m, open * open);
    }
}
