import java.math.BigInteger;
import java.util.ArrayList;
import java.util.Arrays;
import java.util.HashSet;
import java.util.List;
import java.util.Set;

/**
 * What the document says, once more and in another way than FarVoice does: plain searches over all
 * that could be, texts taken apart as strings, Java's own dispatch, arrays and exceptions.
 */
final class Model {
    static final long NO = Long.MIN_VALUE;

    int mouth = 20;
    int jaw = 26;
    boolean[] moves = new boolean[40];
    List<Integer> words = new ArrayList<>();
    int slips;
    String holds = "";
    Model image;

    final List<int[]> seats = new ArrayList<>();
    final List<Voice> voices = new ArrayList<>();
    final List<String> houses = new ArrayList<>();
    String text = "";
    final Object[] tapes = new Object[6];
    final List<Integer> trace = new ArrayList<>();

    // ---- the stage, seats, houses

    int mouth(int place) {
        if (place < 0 || place > 40) {
            return -1;
        }
        int was = mouth;
        mouth = place;
        return was;
    }

    int jaw(int place, long tenths) {
        if (place < 0 || place > 40) {
            return -1;
        }
        if (tenths >>> 40 != 0) {
            return -2;
        }
        int was = jaw;
        jaw = place;
        moves = new boolean[40];
        for (int t = 0; t < 40; t++) {
            moves[t] = (tenths >> t) % 2 != 0;
        }
        return was;
    }

    int seat(int far, int side) {
        if (far < 1 || far > 40) {
            return -2;
        }
        if (side < 0 || side > 40) {
            return -1;
        }
        if (seats.size() == 8) {
            return -4;
        }
        seats.add(new int[] {far, side});
        return seats.size() - 1;
    }

    int of(int seat, int what) {
        try {
            return seats.get(seat)[what];
        } catch (IndexOutOfBoundsException e) {
            return -1;
        }
    }

    int say(int letter) {
        if (letter < -1 || letter > 9) {
            return -1;
        }
        if (letter == -1) {
            words = new ArrayList<>();
            return 0;
        }
        if (words.size() == 20) {
            return -4;
        }
        words.add(letter);
        return words.size();
    }

    int feed(int bytes, int n) {
        if (n < 0 || n > 4) {
            return -2;
        }
        if (text.length() > 100 - n) {
            return -4;
        }
        String all = "";
        for (int k = 0; k < 4; k++) {
            all = (char) (bytes & 255) + all;
            bytes >>= 8;
        }
        text += all.substring(4 - n);
        return text.length();
    }

    int house() {
        if (houses.size() == 5) {
            return -4;
        }
        int fault = fault(text);
        if (fault < 0) {
            holds = text;
            houses.add(text);
        }
        text = "";
        return fault < 0 ? houses.size() - 1 : -10 - fault;
    }

    int told(int letter, int what) {
        if (letter < 0 || letter > 9) {
            return -1;
        }
        switch (what) {
            case 0: return hears(letter, 0);
            case 1: return hears(letter, 1);
            case 2: return swapOf(letter);
            case 3: return late();
            default: return -1;
        }
    }

    // ---- the text: all ways in which a HOUSE may go on, byte by byte

    private static final char CLAUSE = 0x200, NUMBER = 0x201, DIGIT = 0x202, BIT = 0x203, TEST = 0x204, ASKED = 0x205,
        RELATION = 0x206, MORE_DIGITS = 0x207, ANY = 0x210, MORE_ANY = 0x220, ALL = 0x230, MORE_ALL = 0x240,
        FACTOR = 0x250, HOUSE = 0x260, MORE_CLAUSES = 0x270;

    private static String[] goesOn(char part) {
        int n = part & 15;
        switch (part & ~15) {
            case HOUSE: return new String[] {"" + CLAUSE + (char) (MORE_CLAUSES + n)};
            case MORE_CLAUSES: return n == 10 ? new String[] {""} : new String[] {"", ";" + (char) (HOUSE + n + 1)};
            case ANY: return new String[] {"" + (char) (ALL + n) + (char) (MORE_ANY + n)};
            case MORE_ANY: return new String[] {"", "|" + (char) (ANY + n)};
            case ALL: return new String[] {"" + (char) (FACTOR + n) + (char) (MORE_ALL + n)};
            case MORE_ALL: return new String[] {"", "&" + (char) (ALL + n)};
            case FACTOR:
                return n == 4 ? new String[] {"" + TEST}
                    : new String[] {"" + TEST, "!" + (char) (FACTOR + n + 1), "(" + (char) (ANY + n + 1) + ")"};
            default: break;
        }
        switch (part) {
            case CLAUSE:
                return new String[] {"ear " + NUMBER + " " + ANY, "eye " + NUMBER + " " + ANY, "late " + NUMBER,
                    "hears " + DIGIT + " " + BIT + " " + DIGIT, "swap " + DIGIT + " " + DIGIT};
            case NUMBER: return new String[] {"" + DIGIT + MORE_DIGITS};
            case MORE_DIGITS: return new String[] {"", "" + DIGIT};
            case TEST: return new String[] {"" + ASKED + RELATION + NUMBER};
            default: return null;
        }
    }

    private static boolean fits(char part, char sign) {
        switch (part) {
            case DIGIT: return "0123456789".indexOf(sign) >= 0;
            case BIT: return "01".indexOf(sign) >= 0;
            case ASKED: return "foklt".indexOf(sign) >= 0;
            case RELATION: return "<=>".indexOf(sign) >= 0;
            default: return part == sign;
        }
    }

    private static void open(String rest, Set<String> into) {
        String[] ways = rest.isEmpty() ? null : goesOn(rest.charAt(0));
        if (ways == null) {
            into.add(rest);
            return;
        }
        for (String way : ways) {
            open(way + rest.substring(1), into);
        }
    }

    static int fault(String text) {
        Set<String> rests = new HashSet<>();
        open("" + (char) (HOUSE + 1), rests);
        for (int i = 0; i < text.length(); i++) {
            Set<String> next = new HashSet<>();
            for (String rest : rests) {
                if (!rest.isEmpty() && fits(rest.charAt(0), text.charAt(i))) {
                    open(rest.substring(1), next);
                }
            }
            if (next.isEmpty()) {
                return i;
            }
            rests = next;
        }
        return rests.contains("") ? -1 : text.length();
    }

    // ---- what the house that holds says

    private String[] clauses(String word) {
        return Arrays.stream(holds.split(";")).filter(c -> c.startsWith(word + " ")).toArray(String[]::new);
    }

    int hears(int letter, int shut) {
        int sound = letter;
        for (String clause : clauses("hears")) {
            if (clause.startsWith("hears " + letter + " " + shut + " ")) {
                sound = clause.charAt(10) - '0';
            }
        }
        return sound;
    }

    int swapOf(int letter) {
        int other = letter;
        for (String clause : clauses("swap")) {
            if (clause.startsWith("swap " + letter + " ")) {
                other = clause.charAt(7) - '0';
            }
        }
        return other;
    }

    int late() {
        String[] lates = clauses("late");
        return lates.length == 0 ? 1 : Integer.parseInt(lates[lates.length - 1].substring(5));
    }

    int unsure(String word, Voice voice, int seat, int tenth) {
        int sum = 1;
        for (String clause : clauses(word)) {
            String[] parts = clause.split(" ");
            if (isSo(parts[2], voice, seat, tenth)) {
                sum += Integer.parseInt(parts[1]);
            }
        }
        return sum > 60 ? 60 : sum;
    }

    /** Parts an E at a sign that stands within no bracket. */
    private static List<String> parted(String e, char at) {
        List<String> parts = new ArrayList<>();
        int open = 0;
        int from = 0;
        for (int i = 0; i < e.length(); i++) {
            open += e.charAt(i) == '(' ? 1 : e.charAt(i) == ')' ? -1 : 0;
            if (open == 0 && e.charAt(i) == at) {
                parts.add(e.substring(from, i));
                from = i + 1;
            }
        }
        parts.add(e.substring(from));
        return parts;
    }

    private boolean isSo(String e, Voice voice, int seat, int tenth) {
        List<String> ors = parted(e, '|');
        if (ors.size() > 1) {
            return ors.stream().anyMatch(part -> isSo(part, voice, seat, tenth));
        }
        List<String> ands = parted(e, '&');
        if (ands.size() > 1) {
            return ands.stream().allMatch(part -> isSo(part, voice, seat, tenth));
        }
        if (e.startsWith("!")) {
            return !isSo(e.substring(1), voice, seat, tenth);
        }
        if (e.startsWith("(")) {
            return isSo(e.substring(1, e.length() - 1), voice, seat, tenth);
        }
        int asked;
        switch (e.charAt(0)) {
            case 'f': asked = seats.get(seat)[0]; break;
            case 'o': asked = Math.abs(mouth - seats.get(seat)[1]); break;
            case 'k': asked = voice.kind; break;
            case 'l': asked = tenth / 2 < words.size() ? words.get(tenth / 2) : 99; break;
            default: asked = tenth; break;
        }
        int compared = Integer.compare(asked, Integer.parseInt(e.substring(2)));
        return compared == "<=>".indexOf(e.charAt(1)) - 1;
    }

    // ---- voices

    private boolean lacks(int voice, int seat) {
        return voice < 0 || voice >= voices.size() || seat < 0 || seat >= seats.size();
    }

    int voice(int kind, int v) {
        if (kind < 0 || kind > 6) {
            return -1;
        }
        if (v < 0 || v > 9) {
            return -2;
        }
        if (voices.size() == 10) {
            return -4;
        }
        Voice made;
        switch (kind) {
            case 0: made = new Voice(); break;
            case 1: made = new Near(); break;
            case 2: made = new Boxed(); break;
            case 3: made = new Far(); break;
            case 4: made = new Doubled(); break;
            case 5: made = new Swapped(); break;
            default: made = new Dubbed(); break;
        }
        made.kind = kind;
        made.v = v;
        made.i = voices.size();
        made.trace = trace;
        voices.add(made);
        return made.i;
    }

    private int sounds(Voice voice, int jawAt) {
        int place = mouth;
        for (int step = 0; step < voice.v; step++) {
            if (voice instanceof Near && place != jawAt) {
                place += jawAt > place ? 1 : -1;
            }
            if (voice instanceof Far) {
                place += jawAt > mouth ? -1 : 1;
                place = Math.max(0, Math.min(40, place));
            }
        }
        return place;
    }

    private int ear(Voice voice, int seat, int tenth) {
        int told = unsure("ear", voice, seat, tenth);
        return voice instanceof Boxed ? told + voice.v : voice instanceof Far ? told + told : told;
    }

    private int eye(Voice voice, int seat, int tenth) {
        return unsure("eye", voice, seat, tenth);
    }

    private static boolean[] later(boolean[] bits, int n) {
        boolean[] moved = new boolean[40];
        for (int t = 0; t < 40; t++) {
            if (bits[t] && t + n < 40) {
                moved[t + n] = true;
            }
        }
        return moved;
    }

    private boolean joined(Voice voice, int seat, int tenth, int jawAt, boolean[] told) {
        if (tenth >= 2 * words.size()) {
            return false;
        }
        if (voice.kind == 4 && voice.v > 0 && tenth % voice.v == 0) {
            return false;
        }
        boolean[] bits = voice.kind == 6 ? later(told, voice.v) : told;
        boolean moving = false;
        for (int t = 0; t < 40; t++) {
            moving |= bits[t] && Math.abs(t - tenth) <= late();
        }
        int reach = ear(voice, seat, tenth) + eye(voice, seat, tenth);
        return moving && Math.abs(jawAt - sounds(voice, jawAt)) <= reach;
    }

    private boolean joined(Voice voice, int seat, int tenth) {
        return joined(voice, seat, tenth, jaw, moves);
    }

    private int held(Voice voice, int seat, int tenth) {
        int sounds = sounds(voice, jaw);
        if (!joined(voice, seat, tenth)) {
            return sounds;
        }
        int ear = ear(voice, seat, tenth);
        int eye = eye(voice, seat, tenth);
        return (sounds * eye + jaw * ear) / (ear + eye);
    }

    private boolean caught(Voice voice, int seat, int tenth) {
        int held = held(voice, seat, tenth);
        return Math.abs(held - jaw) < Math.abs(held - mouth);
    }

    int held(int voice, int seat, int tenth, int what) {
        if (lacks(voice, seat) || tenth < 0 || tenth > 39) {
            return -1;
        }
        Voice speaker = voices.get(voice);
        switch (what) {
            case 0: return ear(speaker, seat, tenth);
            case 1: return eye(speaker, seat, tenth);
            case 2: return sounds(speaker, jaw);
            case 3: return joined(speaker, seat, tenth) ? 1 : 0;
            case 4: return held(speaker, seat, tenth);
            case 5: return caught(speaker, seat, tenth) ? 1 : 0;
            default: return -1;
        }
    }

    private int said(Voice voice, int i) {
        return voice.kind == 5 ? swapOf(words.get(i)) : words.get(i);
    }

    private int heardOf(Voice voice, int seat, int i, int said) {
        if (joined(voice, seat, 2 * i)) {
            return hears(said, 0);
        }
        if (seats.get(seat)[0] > 20) {
            return said;
        }
        return hears(said, said == 0 || said == 1 || said == 2 ? 1 : 0);
    }

    private boolean right(Voice voice, int seat, int i) {
        return heardOf(voice, seat, i, said(voice, i)) == words.get(i);
    }

    int heard(int voice, int seat, int i, int what) {
        if (lacks(voice, seat) || i < 0 || i >= words.size() || what < 0 || what > 2) {
            return -1;
        }
        Voice speaker = voices.get(voice);
        int said = said(speaker, i);
        return new int[] {said, heardOf(speaker, seat, i, said), right(speaker, seat, i) ? 1 : 0}[what];
    }

    int houseful(int voice, int tenth) {
        if (voice < 0 || voice >= voices.size() || tenth < -1 || tenth > 39) {
            return -1;
        }
        int bits = 0;
        for (int s = 0; s < seats.size(); s++) {
            boolean all = true;
            for (int t = 0; t < 40; t++) {
                if (tenth == -1 ? t < 2 * words.size() : t == tenth) {
                    all &= caught(voices.get(voice), s, t);
                }
            }
            bits += all ? (int) Math.pow(2, s) : 0;
        }
        return bits;
    }

    int drawn(int voice, int seat, int tenth) {
        if (lacks(voice, seat) || tenth < 0 || tenth > 39) {
            return -1;
        }
        int best = -5;
        for (int d = 0; mouth + d <= 40; d++) {
            if (joined(voices.get(voice), seat, tenth, mouth + d, moves)) {
                best = d;
            }
        }
        return best;
    }

    int latest(int voice, int seat) {
        if (lacks(voice, seat)) {
            return -1;
        }
        int best = -5;
        for (int n = 0; n <= 20; n++) {
            boolean all = true;
            for (int t = 0; t < 2 * words.size() && all; t++) {
                all = joined(voices.get(voice), seat, t, jaw, later(moves, n));
            }
            best = all ? n : best;
        }
        return best;
    }

    int wrong(int voice, int seat) {
        if (lacks(voice, seat)) {
            return -1;
        }
        int wrongs = words.size();
        for (int i = 0; i < words.size(); i++) {
            wrongs -= heard(voice, seat, i, 2);
        }
        return wrongs;
    }

    int swap(int voice, int i, int what) {
        if (voice < 0 || voice >= voices.size() || i < 0 || i >= words.size() || what < 0 || what > 1) {
            return -1;
        }
        int[] by = new int[10];
        for (int letter = 0; letter < 10; letter++) {
            for (int s = 0; s < seats.size(); s++) {
                by[letter] += heardOf(voices.get(voice), s, i, letter) == words.get(i) ? 1 : 0;
            }
        }
        int most = Arrays.stream(by).max().getAsInt();
        for (int letter = 0; letter < 10; letter++) {
            if (by[letter] == most) {
                return what == 0 ? letter : most;
            }
        }
        throw new IllegalStateException();
    }

    int changed(int voice, int seat) {
        if (lacks(voice, seat)) {
            return -1;
        }
        int changes = 0;
        for (int i = 0; i < words.size(); i++) {
            boolean can = right(voices.get(voice), seat, i);
            for (int letter = 0; letter < 10; letter++) {
                can |= heardOf(voices.get(voice), seat, i, letter) == words.get(i);
            }
            changes += can ? 0 : 1;
        }
        return changes;
    }

    // ---- boxes, slips, turns

    int boxes(int k, int what) {
        if (what < 0 || what > 2) {
            return -1;
        }
        if (k != 1 && k != 2) {
            return -2;
        }
        int[] best = null;
        for (int a = 0; a <= 40; a++) {
            for (int b = a + 1; b <= (k == 1 ? a + 1 : 40); b++) {
                int sum = 0;
                for (int[] seat : seats) {
                    int off = Math.abs(seat[1] - a);
                    sum += seat[0] * (k == 1 ? off : Math.min(off, Math.abs(seat[1] - b)));
                }
                if (best == null || sum < best[2]) {
                    best = new int[] {a, k == 1 ? -5 : b, sum};
                }
            }
        }
        return best[what];
    }

    int slips(int n) {
        if (n < 0 || n > 10) {
            return -2;
        }
        int was = slips;
        slips = n;
        return was;
    }

    /** Goes through all that may slip, up to seven of it; more, by how likely one at least does not. */
    long sure(int voice, int seat, int tenth, int part) {
        if (lacks(voice, seat) || tenth < 0 || tenth > 39 || part < 0 || part > 1) {
            return NO;
        }
        Voice speaker = voices.get(voice);
        int dub = speaker.kind == 6 ? speaker.v : 0;
        List<Integer> around = new ArrayList<>();
        for (int t = 0; t < 40; t++) {
            if (moves[t] && t + dub < 40 && Math.abs(t + dub - tenth) <= late()) {
                around.add(t);
            }
        }
        if (around.size() > 15) {
            return NO;
        }
        BigInteger below = BigInteger.TEN.pow(around.size());
        BigInteger above = BigInteger.ZERO;
        if (around.size() > 7) {
            above = joined(speaker, seat, tenth) ? below.subtract(BigInteger.valueOf(slips).pow(around.size())) : above;
        } else {
            for (int slipped = 0; slipped < 1 << around.size(); slipped++) {
                boolean[] left = moves.clone();
                BigInteger odds = BigInteger.ONE;
                for (int k = 0; k < around.size(); k++) {
                    boolean slips = (slipped >> k & 1) == 1;
                    left[around.get(k)] = !slips;
                    odds = odds.multiply(BigInteger.valueOf(slips ? this.slips : 10 - this.slips));
                }
                above = joined(speaker, seat, tenth, jaw, left) ? above.add(odds) : above;
            }
        }
        BigInteger common = above.gcd(below);
        return (part == 0 ? above : below).divide(common).longValueExact();
    }

    int changes(int a, int b, int seat, int n) {
        if (lacks(a, seat) || lacks(b, seat)) {
            return -1;
        }
        if (n < 0 || n > 40) {
            return -2;
        }
        int turns = 0;
        for (int i = 0; i + 1 < words.size(); i++) {
            Voice first = voices.get(i % 2 == 0 ? a : b);
            Voice second = voices.get(i % 2 == 0 ? b : a);
            int by = held(second, seat, 2 * i + 2) - held(first, seat, 2 * i);
            turns += by > n || -by > n ? 1 : 0;
        }
        return turns;
    }

    // ---- judging, the image, acts, tapes

    int judge(int tape, int i, int voice, int seat) {
        if (tape < 0 || tape > 5 || lacks(voice, seat)) {
            return -1;
        }
        if (tapes[tape] != null && !(tapes[tape] instanceof short[])) {
            return -12;
        }
        short[] row = tapes[tape] == null ? new short[0] : (short[]) tapes[tape];
        for (int t = 0; t < 2 * words.size(); t++) {
            long at = (long) i + t;
            if (i < 0 || at >= row.length) {
                return 100 + t;
            }
            if (row[(int) at] != held(voices.get(voice), seat, t)) {
                return t;
            }
        }
        return -5;
    }

    private void become(Model other) {
        mouth = other.mouth;
        jaw = other.jaw;
        moves = other.moves.clone();
        words = new ArrayList<>(other.words);
        slips = other.slips;
        holds = other.holds;
    }

    int image() {
        image = new Model();
        image.become(this);
        return words.size();
    }

    int undo() {
        if (image == null) {
            return -3;
        }
        become(image);
        return words.size();
    }

    int act(int voice, int act, int x) {
        trace.clear();
        if (voice < 0 || voice >= voices.size()) {
            return 0;
        }
        switch (act) {
            case 0: return voices.get(voice).hears(x);
            case 1: return voices.get(voice).sees(x);
            case 2: return voices.get(voice).tells(x);
            default: return 0;
        }
    }

    int trace(int i) {
        return i < 0 || i >= Math.min(20, trace.size()) ? -1 : trace.get(i);
    }

    int taken(int voice, int k) {
        if (k < 0 || k > 6) {
            return -2;
        }
        if (voice < 0 || voice >= voices.size()) {
            return -11;
        }
        Class<?>[] kinds = {Voice.class, Near.class, Boxed.class, Far.class, Doubled.class, Swapped.class, Dubbed.class};
        try {
            return ((Voice) kinds[k].cast(voices.get(voice))).kind;
        } catch (ClassCastException e) {
            return -12;
        }
    }

    int count(int what) {
        int[] counts = {seats.size(), words.size(), houses.size(), voices.size(), text.length(), trace.size(), mouth, jaw};
        return what < 0 || what > 7 ? -2 : counts[what];
    }

    int tape(int tape, int sort, int n) {
        if (tape < 0 || tape > 5) {
            return -1;
        }
        if (sort < -1 || sort > 4 || (sort != -1 && n > 60)) {
            return -2;
        }
        try {
            switch (sort) {
                case 0: tapes[tape] = new byte[n]; break;
                case 1: tapes[tape] = new short[n]; break;
                case 2: tapes[tape] = new int[n]; break;
                case 3: tapes[tape] = new long[n]; break;
                case 4: tapes[tape] = new boolean[n]; break;
                default: tapes[tape] = null; break;
            }
        } catch (NegativeArraySizeException e) {
            return -14;
        }
        return 1;
    }

    int item(int tape, int i, long v) {
        if (tape < 0 || tape > 5) {
            return -1;
        }
        Object row = tapes[tape];
        if (row == null) {
            return -11;
        }
        try {
            if (row instanceof byte[]) {
                ((byte[]) row)[i] = (byte) v;
            } else if (row instanceof short[]) {
                ((short[]) row)[i] = (short) v;
            } else if (row instanceof int[]) {
                ((int[]) row)[i] = (int) v;
            } else if (row instanceof long[]) {
                ((long[]) row)[i] = v;
            } else {
                ((boolean[]) row)[i] = v != 0;
            }
        } catch (ArrayIndexOutOfBoundsException e) {
            return -13;
        }
        return 1;
    }

    long read(int tape, int i) {
        if (tape < 0 || tape > 5 || tapes[tape] == null) {
            return NO;
        }
        try {
            Object row = tapes[tape];
            if (row instanceof boolean[]) {
                return ((boolean[]) row)[i] ? 1 : 0;
            }
            return java.lang.reflect.Array.getLong(row, i);
        } catch (ArrayIndexOutOfBoundsException e) {
            return NO;
        }
    }

    int shift(int tape, int i, int other, int j, int n) {
        if (tape < 0 || tape > 5 || other < 0 || other > 5) {
            return -1;
        }
        try {
            System.arraycopy(tapes[tape], i, tapes[other], j, n);
            return n;
        } catch (NullPointerException e) {
            return -11;
        } catch (ArrayStoreException e) {
            return -12;
        } catch (IndexOutOfBoundsException e) {
            return -13;
        }
    }

    // ---- kinds

    static class Voice {
        int kind;
        int v;
        int i;
        List<Integer> trace;

        int hears(int x) {
            trace.add(10);
            return x + i;
        }

        int sees(int x) {
            trace.add(11);
            return hears(x) - v;
        }

        int tells(int x) {
            trace.add(12);
            return sees(x) * 2;
        }
    }

    static class Near extends Voice {
        @Override
        int sees(int x) {
            trace.add(20);
            return super.sees(x) ^ 6;
        }
    }

    static class Boxed extends Voice {
        @Override
        int hears(int x) {
            trace.add(30);
            return super.hears(x * 3);
        }
    }

    static class Far extends Voice {
        @Override
        int tells(int x) {
            trace.add(40);
            return super.tells(x) + sees(1);
        }
    }

    static final class Doubled extends Near {
        @Override
        int hears(int x) {
            trace.add(50);
            return -super.hears(x);
        }

        @Override
        int sees(int x) {
            trace.add(51);
            return super.sees(x + 1);
        }
    }

    static final class Swapped extends Boxed {
        @Override
        int tells(int x) {
            trace.add(60);
            return super.tells(x - i);
        }
    }

    static final class Dubbed extends Far {
        @Override
        int sees(int x) {
            trace.add(70);
            return super.sees(x) + super.hears(2);
        }

        @Override
        int hears(int x) {
            trace.add(71);
            return super.hears(x) ^ v;
        }
    }
}
