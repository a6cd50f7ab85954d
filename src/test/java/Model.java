import java.util.ArrayList;
import java.util.Arrays;
import java.util.List;
import java.util.Objects;
import java.util.TreeMap;
import java.util.regex.Matcher;
import java.util.regex.Pattern;

/** All calls, written a second time in another way: the FAULTS of a SHEET are those of the machine, a TOKEN is a pattern. */
final class Model {
    private static final int BAD = -1, STATE = -2, FULL = -3, NONE = -4;
    private static final Pattern TOKEN = Pattern.compile(" *(?:([a-z]+)|([0-9]+)|(;))");

    private static final List<List<int[]>> NAMES = names();

    private final StringBuilder tape = new StringBuilder();
    private Land land = new Land();
    private final Land[] images = new Land[2];
    private final Object[] sheets = new Object[4];
    private int fault = 0;
    private int torn = 0;

    /** THE TABLE (squares by PAIRS) and the ROAD. */
    private static final class Land {
        int places = 3;
        TreeMap<Integer, Integer> told = new TreeMap<>();
        List<Integer> road = new ArrayList<>();

        Land copy() {
            Land other = new Land();
            other.places = places;
            other.told = new TreeMap<>(told);
            other.road = new ArrayList<>(road);
            return other;
        }

        boolean areTwo(int a, int b) {
            return Math.min(a, b) >= 0 && Math.max(a, b) < places && a != b;
        }
    }

    /** A FAULT of a text and its place. */
    private static final class Refusal extends Exception {
        private static final long serialVersionUID = 1;
        final int which;
        final int place;

        Refusal(int which, int place) {
            this.which = which;
            this.place = place;
        }
    }

    long ask(String call) {
        String[] words = call.split(" ");
        if (words[0].equals("feed")) {
            return feed(Long.parseLong(words[1]));
        }
        int[] v = new int[5];
        for (int i = 1; i < words.length; i++) {
            v[i - 1] = Integer.parseInt(words[i]);
        }
        int a = v[0];
        int b = v[1];
        int c = v[2];
        return switch (words[0]) {
            case "end" -> end(a);
            case "land" -> land();
            case "fault" -> fault;
            case "far" -> land.areTwo(a, b) ? land.told.getOrDefault(pair(a, b), NONE) : BAD;
            case "tell" -> tell(a, b, c);
            case "pair" -> land.areTwo(a, b) ? pair(a, b) : BAD;
            case "part" -> part(a);
            case "clear" -> clear();
            case "road" -> road(a);
            case "reaches" -> reaches(a, b);
            case "maps" -> maps(a, b);
            case "keep" -> keep(a);
            case "back" -> back(a);
            case "sheet" -> sheet(a, b, c);
            case "lay" -> lay(a, b, c);
            case "read" -> read(a, b, c, v[3]);
            case "torn" -> torn;
            case "count" -> count(a);
            default -> new Asked(land.places, land.told).ask(words[0], v);
        };
    }

    private static int pair(int a, int b) {
        return Asked.pair(a, b);
    }

    private int feed(long v) {
        if (tape.length() + 8 > 320) {
            return FULL;
        }
        for (int i = 7; i >= 0; i--) {
            tape.append((char) (v >> 8 * i & 255));
        }
        return tape.length();
    }

    private int end(int n) {
        int had = tape.length();
        if (n < 0 || n > had) {
            return BAD;
        }
        tape.setLength(n);
        return had;
    }

    private int land() {
        String text = tape.toString();
        tape.setLength(0);
        fault = 0;
        try {
            Land read = new Land();
            int lines = readAll(text, read);
            land = read;
            Arrays.fill(images, null);
            return lines;
        } catch (Refusal refusal) {
            fault = refusal.which;
            return -10 - refusal.place;
        }
    }

    /** Where the next TOKEN is read from, where it begins, and its text ("" is the end). */
    private static final class Cursor {
        final String text;
        int next = 0;
        int start = 0;
        String token = "";

        Cursor(String text) {
            this.text = text;
        }

        String read() throws Refusal {
            Matcher m = TOKEN.matcher(text).region(next, text.length());
            if (!m.lookingAt()) {
                String rest = text.substring(next);
                start = next + rest.length() - rest.replaceAll("^ +", "").length();
                if (start < text.length()) {
                    throw new Refusal(1, start);
                }
                token = "";
                return token;
            }
            next = m.end();
            token = m.group().replace(" ", "");
            start = m.end() - token.length();
            if (m.group(2) != null && token.length() > 4) {
                throw new Refusal(1, start);
            }
            return token;
        }

        int number(int least, int greatest) throws Refusal {
            if (!read().matches("[0-9]+")) {
                throw new Refusal(2, start);
            }
            int v = Integer.parseInt(token);
            if (v < least || v > greatest) {
                throw new Refusal(3, start);
            }
            return v;
        }
    }

    private static int readAll(String text, Land read) throws Refusal {
        Cursor cursor = new Cursor(text);
        boolean placesTold = false;
        int greatest = 0;
        int lines = 0;
        while (!cursor.read().isEmpty()) {
            if (cursor.token.equals("places")) {
                if (placesTold) {
                    throw new Refusal(4, cursor.start);
                }
                placesTold = true;
                read.places = cursor.number(2, 7);
            } else if (cursor.token.equals("far")) {
                int a = cursor.number(0, 6);
                int b = cursor.number(0, 6);
                if (a == b || read.told.containsKey(pair(a, b))) {
                    throw new Refusal(a == b ? 3 : 4, cursor.start);
                }
                read.told.put(pair(a, b), cursor.number(1, 9999));
                greatest = Math.max(greatest, Math.max(a, b));
            } else {
                throw new Refusal(2, cursor.start);
            }
            if (!cursor.read().equals(";")) {
                throw new Refusal(2, cursor.start);
            }
            lines++;
        }
        if (greatest >= read.places) {
            throw new Refusal(5, text.length());
        }
        return lines;
    }

    private int tell(int a, int b, int v) {
        if (!land.areTwo(a, b) || v != NONE && (v < 1 || v > 9999)) {
            return BAD;
        }
        Integer was = v == NONE ? land.told.remove(pair(a, b)) : land.told.put(pair(a, b), v);
        return was == null ? NONE : was;
    }

    private int part(int l) {
        if (l < 1 || l > 99) {
            return BAD;
        }
        if (land.road.size() == 8) {
            return FULL;
        }
        land.road.add(l);
        return land.road.size();
    }

    private int clear() {
        int had = land.road.size();
        land.road.clear();
        return had;
    }

    /** How far the end can be: part by part, the ring of where it can be grows and closes. */
    private int road(int what) {
        if (what < 0 || what > 1) {
            return BAD;
        }
        if (land.road.isEmpty()) {
            return STATE;
        }
        int least = 0;
        int greatest = 0;
        for (int l : land.road) {
            least = l > greatest ? l - greatest : l < least ? least - l : 0;
            greatest += l;
        }
        return what == 0 ? least : greatest;
    }

    private int reaches(int a, int b) {
        if (!land.areTwo(a, b)) {
            return BAD;
        }
        if (land.road.isEmpty()) {
            return STATE;
        }
        Integer square = land.told.get(pair(a, b));
        if (square == null) {
            return NONE;
        }
        double far = Math.sqrt(square);
        return road(0) <= far && far <= road(1) ? 1 : 0;
    }

    /** All ways to call the PLACES, those with the least name of PLACE 0 first, then of 1, .. */
    private int maps(int k, int what) {
        boolean name = what >= 10 && what < 10 + land.places;
        if (k < 0 || k > 1 || !name && what != 0) {
            return BAD;
        }
        if (images[k] == null) {
            return STATE;
        }
        int found = 0;
        for (int[] names : NAMES.get(land.places)) {
            if (land.places == images[k].places && isMap(names, images[k])) {
                if (name) {
                    return names[what - 10];
                }
                found++;
            }
        }
        return name ? NONE : found;
    }

    private boolean isMap(int[] names, Land image) {
        for (int b = 1; b < names.length; b++) {
            for (int a = 0; a < b; a++) {
                if (!Objects.equals(land.told.get(pair(a, b)), image.told.get(pair(names[a], names[b])))) {
                    return false;
                }
            }
        }
        return true;
    }

    private static List<List<int[]>> names() {
        List<List<int[]>> all = new ArrayList<>();
        for (int places = 0; places <= 7; places++) {
            List<int[]> ways = new ArrayList<>();
            nameOne(new int[places], 0, ways);
            all.add(ways);
        }
        return all;
    }

    private static void nameOne(int[] names, int p, List<int[]> ways) {
        if (p == names.length) {
            ways.add(names.clone());
            return;
        }
        for (int name = 0; name < names.length; name++) {
            names[p] = name;
            if (Arrays.stream(names, 0, p + 1).distinct().count() == p + 1) {
                nameOne(names, p + 1, ways);
            }
        }
    }

    private int keep(int k) {
        if (k < 0 || k > 1) {
            return BAD;
        }
        int was = images[k] == null ? 0 : 1;
        images[k] = land.copy();
        return was;
    }

    private int back(int k) {
        if (k < 0 || k > 1) {
            return BAD;
        }
        if (images[k] == null) {
            return STATE;
        }
        land = images[k].copy();
        return land.told.size();
    }

    private int sheet(int k, int lane, int n) {
        if (k < 0 || k > 3 || lane < 0 || lane > 2 || n > 40) {
            return BAD;
        }
        try {
            sheets[k] = lane == 0 ? new byte[n] : lane == 1 ? new short[n] : new int[n];
            return 1;
        } catch (NegativeArraySizeException e) {
            return -14;
        }
    }

    private int lay(int k, int i, int v) {
        if (k < 0 || k > 3) {
            return BAD;
        }
        try {
            if (sheets[k] instanceof byte[] bytes) {
                bytes[i] = (byte) v;
            } else if (sheets[k] instanceof short[] shorts) {
                shorts[i] = (short) v;
            } else {
                ((int[]) sheets[k])[i] = v;
            }
            return 1;
        } catch (NullPointerException e) {
            return -11;
        } catch (ArrayIndexOutOfBoundsException e) {
            return -12;
        }
    }

    private static int cell(Object row, int lane, int i) {
        return lane == 0 ? ((byte[]) row)[i] : lane == 1 ? ((short[]) row)[i] : ((int[]) row)[i];
    }

    private int read(int k, int lane, int f, int n) {
        if (k < 0 || k > 3 || lane < 0 || lane > 2 || n < 0 || n > 13) {
            return BAD;
        }
        List<int[]> whole = new ArrayList<>();
        int found = 0;
        try {
            for (int i = 0; i < n; i++) {
                int at = f + 3 * i;
                whole.add(new int[] {cell(sheets[k], lane, at), cell(sheets[k], lane, at + 1), cell(sheets[k], lane, at + 2)});
            }
        } catch (NullPointerException e) {
            found = 1;
        } catch (ArrayIndexOutOfBoundsException e) {
            found = 2;
        } catch (ClassCastException e) {
            found = 3;
        }
        for (int i = 0; i < whole.size(); i++) {
            int[] t = whole.get(i);
            if (!land.areTwo(t[0], t[1]) || t[2] < 1 || t[2] > 9999) {
                return -20 - i;
            }
        }
        for (int[] t : whole) {
            tell(t[0], t[1], t[2]);
        }
        torn = found;
        return whole.size();
    }

    private int count(int what) {
        return switch (what) {
            case 0 -> land.places;
            case 1 -> land.told.size();
            case 2 -> land.road.size();
            case 3 -> (images[0] == null ? 0 : 1) + (images[1] == null ? 0 : 1);
            case 4 -> tape.length();
            case 5 -> sheets[0] == null ? NONE : java.lang.reflect.Array.getLength(sheets[0]);
            default -> BAD;
        };
    }
}
