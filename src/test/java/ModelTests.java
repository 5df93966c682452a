import java.lang.reflect.Method;
import java.lang.reflect.Modifier;
import java.util.Arrays;
import java.util.Random;

/** Runs of calls on a FarVoice and on the Model, with fixed seeds: all answers must be the same. */
final class ModelTests {
    private static final int CALLS = 512;
    private static final String[] NAMES = {
        "mouth", "jaw", "seat", "of", "say", "feed", "house", "told", "voice", "held", "heard", "houseful", "drawn",
        "latest", "wrong", "swap", "changed", "boxes", "slips", "sure", "changes", "judge", "image", "undo", "act",
        "trace", "taken", "count", "tape", "item", "read", "shift",
    };

    private final Random random;
    private final FarVoice x = new FarVoice();
    private final Model model = new Model();
    private final String run;
    private int calls;

    private ModelTests(long seed) {
        random = new Random(seed);
        run = "seed " + seed;
    }

    // ---- texts

    private String pick(String... all) {
        return all[random.nextInt(all.length)];
    }

    private int upTo(int most) {
        return random.nextInt(most + 1);
    }

    private String randomTest() {
        String asked = pick("f", "o", "k", "l", "t");
        int most = asked.equals("k") ? 7 : asked.equals("l") ? 11 : 41;
        return asked + pick("<", "=", ">") + (upTo(20) == 0 ? 99 : upTo(most));
    }

    private String randomE(int within) {
        String e = randomF(within);
        while (upTo(5) < 2) {
            e += pick("|", "&") + randomF(within);
        }
        return e;
    }

    private String randomF(int within) {
        int way = upTo(9);
        if (way > 3 || within > 4) {
            return randomTest();
        }
        return way < 2 ? "!" + randomF(within + 1) : "(" + randomE(within + 1) + ")";
    }

    private String randomClause() {
        switch (upTo(9)) {
            case 0: return "late " + upTo(upTo(3) == 0 ? 40 : 3);
            case 1: case 2: return "hears " + upTo(9) + " " + upTo(1) + " " + upTo(9);
            case 3: return "swap " + upTo(9) + " " + upTo(9);
            default: return pick("ear", "eye") + " " + upTo(upTo(4) == 0 ? 70 : 9) + " " + randomE(0);
        }
    }

    private String randomText() {
        StringBuilder text = new StringBuilder(randomClause());
        int clauses = 1 + upTo(9);
        for (int c = 1; c < clauses; c++) {
            String clause = randomClause();
            if (text.length() + 1 + clause.length() <= 100) {
                text.append(';').append(clause);
            }
        }
        if (upTo(3) == 0) {
            String signs = "earylthswp0123456789 ;|&!()<=>foklt" + (char) 200;
            int at = upTo(text.length() - 1);
            String sign = "" + signs.charAt(upTo(signs.length() - 1));
            text.replace(at, at + upTo(1), upTo(1) == 0 ? "" : sign);
        }
        return text.substring(0, Math.min(100, text.length()));
    }

    private void house() {
        String text = randomText();
        for (int from = 0; from < text.length();) {
            int n = Math.min(1 + upTo(3), text.length() - from);
            int bytes = n < 4 ? random.nextInt() : 0;
            for (int k = 0; k < n; k++) {
                bytes = bytes << 8 | text.charAt(from + k);
            }
            from += n;
            due("feed(" + bytes + ", " + n + ")", model.feed(bytes, n), x.feed(bytes, n));
        }
        due("house() of '" + text + "'", model.house(), x.house());
    }

    // ---- calls

    private void due(String call, long want, long got) {
        calls++;
        // what comes of later calls is free
        if (want != got && calls <= CALLS) {
            Check.wrong("  " + run + ", call " + calls + ": " + call + " answered " + got + ", the model " + want);
        }
    }

    /** Mostly 0 to most, now and then one beside that. */
    private int about(int most) {
        switch (upTo(24)) {
            case 0: return -1;
            case 1: return most + 1;
            case 2: return upTo(9) == 0 ? random.nextInt() : -2;
            default: return upTo(Math.max(0, most));
        }
    }

    private long bits() {
        switch (upTo(5)) {
            case 0: return (1L << 40) - 1;
            case 1: return 1L << upTo(41);
            case 2: return -1L << upTo(40);
            case 3: return random.nextLong() >>> 24 & random.nextLong();
            default: return (random.nextLong() >>> 24) | (random.nextLong() >>> 24);
        }
    }

    private void randomCall() {
        int voice = about(model.voices.size() - 1);
        int seat = about(model.seats.size() - 1);
        int letter = about(model.words.size() - 1);
        int tenth = upTo(1) == 0 ? about(2 * model.words.size()) : about(39);
        int tape = about(5);
        int i = about(9);
        int what = about(5);
        String name = NAMES[upTo(NAMES.length - 1)];
        String call = name + "(voice " + voice + " seat " + seat + " letter " + letter + " tenth " + tenth + " tape "
            + tape + " i " + i + " what " + what + ")";
        switch (name) {
            case "mouth": mouth(about(40)); break;
            case "jaw": jaw(about(40), bits()); break;
            case "seat": seat(about(40), about(40)); break;
            case "of": due(call, model.of(seat, what), x.of(seat, what)); break;
            case "say": say(upTo(60) == 0 ? -1 : about(9)); break;
            case "feed": feed(random.nextInt(), about(4)); break;
            case "house": house(); break;
            case "told": due(call, model.told(i, what), x.told(i, what)); break;
            case "voice": newVoice(about(6), about(9)); break;
            case "held": due(call, model.held(voice, seat, tenth, what), x.held(voice, seat, tenth, what)); break;
            case "heard": due(call, model.heard(voice, seat, letter, what), x.heard(voice, seat, letter, what)); break;
            case "houseful": due(call, model.houseful(voice, tenth), x.houseful(voice, tenth)); break;
            case "drawn": due(call, model.drawn(voice, seat, tenth), x.drawn(voice, seat, tenth)); break;
            case "latest": due(call, model.latest(voice, seat), x.latest(voice, seat)); break;
            case "wrong": due(call, model.wrong(voice, seat), x.wrong(voice, seat)); break;
            case "swap": due(call, model.swap(voice, letter, what / 2), x.swap(voice, letter, what / 2)); break;
            case "changed": due(call, model.changed(voice, seat), x.changed(voice, seat)); break;
            case "boxes": due(call, model.boxes(1 + i % 3, what), x.boxes(1 + i % 3, what)); break;
            case "slips": slips(about(10)); break;
            case "sure": due(call, model.sure(voice, seat, tenth, i % 2), x.sure(voice, seat, tenth, i % 2)); break;
            case "changes": due(call, model.changes(voice, i, seat, what), x.changes(voice, i, seat, what)); break;
            case "judge": judge(tape, i / 3, voice, seat); break;
            case "image": due(call, model.image(), x.image()); break;
            case "undo": due(call, model.undo(), x.undo()); break;
            case "act": act(voice, about(2), random.nextInt() >> upTo(31)); break;
            case "trace": due(call, model.trace(i), x.trace(i)); break;
            case "taken": due(call, model.taken(voice, i), x.taken(voice, i)); break;
            case "count": due(call, model.count(i), x.count(i)); break;
            case "tape": tape(tape, upTo(1) == 0 ? 1 : about(5) - 1, upTo(3) == 0 ? about(60) : about(9)); break;
            case "item": item(tape, i, random.nextLong() >> upTo(63)); break;
            case "read": due(call, model.read(tape, i), x.read(tape, i)); break;
            default: shift(tape, i, upTo(2) == 0 ? tape : about(5), about(9), about(7)); break;
        }
    }

    private void mouth(int place) {
        due("mouth(" + place + ")", model.mouth(place), x.mouth(place));
    }

    private void jaw(int place, long bits) {
        due("jaw(" + place + ", " + bits + ")", model.jaw(place, bits), x.jaw(place, bits));
    }

    private void seat(int far, int side) {
        due("seat(" + far + ", " + side + ")", model.seat(far, side), x.seat(far, side));
    }

    private void say(int letter) {
        due("say(" + letter + ")", model.say(letter), x.say(letter));
    }

    private void feed(int bytes, int n) {
        due("feed(" + bytes + ", " + n + ")", model.feed(bytes, n), x.feed(bytes, n));
        if (model.text.length() > 0) {
            due("house()", model.house(), x.house());
        }
    }

    private void newVoice(int kind, int v) {
        due("voice(" + kind + ", " + v + ")", model.voice(kind, v), x.voice(kind, v));
    }

    private void slips(int n) {
        due("slips(" + n + ")", model.slips(n), x.slips(n));
    }

    /** Now and then what is held is first written into the tape, with or without an odd one. */
    private void judge(int tape, int i, int voice, int seat) {
        if (upTo(1) == 0 && model.judge(tape, i, voice, seat) >= 0) {
            int odd = upTo(80);
            for (int t = 0; t < 2 * model.words.size(); t++) {
                int place = model.held(voice, seat, t, 4);
                item(tape, i + t, t == odd ? place + 65535 : place);
            }
        }
        due("judge(" + tape + ", " + i + ", " + voice + ", " + seat + ")",
            model.judge(tape, i, voice, seat), x.judge(tape, i, voice, seat));
    }

    private void act(int voice, int act, int n) {
        due("act(" + voice + ", " + act + ", " + n + ")", model.act(voice, act, n), x.act(voice, act, n));
        due("count(5)", model.count(5), x.count(5));
        for (int i = 0; i <= model.trace.size(); i++) {
            due("trace(" + i + ")", model.trace(i), x.trace(i));
        }
    }

    private void tape(int tape, int sort, int n) {
        due("tape(" + tape + ", " + sort + ", " + n + ")", model.tape(tape, sort, n), x.tape(tape, sort, n));
    }

    private void item(int tape, int i, long v) {
        due("item(" + tape + ", " + i + ", " + v + ")", model.item(tape, i, v), x.item(tape, i, v));
        due("read(" + tape + ", " + i + ")", model.read(tape, i), x.read(tape, i));
    }

    private void shift(int tape, int i, int other, int j, int n) {
        due("shift(" + tape + ", " + i + ", " + other + ", " + j + ", " + n + ")",
            model.shift(tape, i, other, j, n), x.shift(tape, i, other, j, n));
    }

    /** A stage with all on it, so that most calls find what they ask for. */
    private void fill() {
        int seats = upTo(7);
        for (int s = 0; s < seats; s++) {
            seat(1 + upTo(39), upTo(40));
        }
        int voices = 4 + upTo(5);
        for (int v = 0; v < voices; v++) {
            newVoice(upTo(6), upTo(9));
        }
        int letters = upTo(20);
        for (int i = 0; i < letters; i++) {
            say(upTo(9));
        }
        jaw(upTo(40), bits());
        house();
        tape(upTo(5), 1, 60);
    }

    private static void runs(int from, int n, boolean filled) {
        for (int seed = from; seed < from + n; seed++) {
            ModelTests run = new ModelTests(seed);
            if (filled) {
                run.fill();
            }
            while (run.calls < CALLS) {
                run.randomCall();
            }
        }
    }

    static void randomRunsFromNothing() {
        runs(1000, 150, false);
    }

    static void randomRunsOnAFullStage() {
        runs(5000, 400, true);
    }

    /** LANGUAGE.md, rule 7: what calls behind the 512th answer is free, but none may throw. */
    static void laterCallsDoNotThrow() {
        for (int seed = 60000; seed < 60020; seed++) {
            ModelTests run = new ModelTests(seed);
            run.fill();
            while (run.calls < 8 * CALLS) {
                run.randomCall();
            }
        }
    }

    /** Every call with the ends of int and long among what it takes. */
    static void extremeArguments() throws ReflectiveOperationException {
        long[] values = {Integer.MIN_VALUE, Integer.MIN_VALUE + 1, -3, -2, -1, 0, 1, 2, 3, 4, 5, 6, 7, 10, 20, 39, 40, 41,
            59, 60, 61, 1 << 30, Integer.MAX_VALUE - 1, Integer.MAX_VALUE, Long.MIN_VALUE, Long.MAX_VALUE};
        for (int seed = 40000; seed < 40200; seed++) {
            ModelTests run = new ModelTests(seed);
            run.fill();
            while (run.calls < CALLS) {
                run.reflected(NAMES[run.upTo(NAMES.length - 1)], values);
            }
        }
    }

    private void reflected(String name, long[] values) throws ReflectiveOperationException {
        for (Method method : FarVoice.class.getDeclaredMethods()) {
            if (!method.getName().equals(name) || !Modifier.isPublic(method.getModifiers())) {
                continue;
            }
            Class<?>[] types = method.getParameterTypes();
            Object[] given = new Object[types.length];
            for (int k = 0; k < given.length; k++) {
                long value = values[upTo(values.length - 1)];
                given[k] = types[k] == int.class ? (Object) (int) value : (Object) value;
            }
            Object want = Model.class.getDeclaredMethod(name, types).invoke(model, given);
            due(name + Arrays.toString(given), ((Number) want).longValue(), ((Number) method.invoke(x, given)).longValue());
        }
    }

    static void randomTexts() {
        for (int seed = 0; seed < 4000; seed++) {
            new ModelTests(20000 + seed).house();
        }
    }
}
