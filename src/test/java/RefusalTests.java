import java.util.ArrayList;
import java.util.LinkedHashMap;
import java.util.List;
import java.util.Map;
import java.util.function.ToLongFunction;

/**
 * "What is answered so changes nothing; what is asked changes nothing." A call is made on one of two
 * objects that were made alike; then both must answer alike whatever else they are asked.
 */
final class RefusalTests {
    private static final int LEAST = Integer.MIN_VALUE, MOST = Integer.MAX_VALUE;
    private static final int[] NUMBERS = {-1, 0, 1, 2, 4, 5, 6, 40, LEAST, MOST};
    private static final long TENTHS = 0x3333FF00F3L;
    private static final String FED = Stages.repeat("late 7", 9, ";") + ";ear 5 f>03|f=2&o<09&f<9|!f=07&t=06";

    private RefusalTests() {
    }

    // ---- the objects

    /** Something of all, and room for more of it; THE TEXT is a HOUSE of 97 bytes. */
    private static FarVoice open() {
        FarVoice x = new FarVoice();
        int[][] seats = {{3, 18}, {8, 22}, {20, 30}, {21, 2}, {40, 40}};
        for (int[] seat : seats) {
            x.seat(seat[0], seat[1]);
        }
        for (int kind = 0; kind < 7; kind++) {
            x.voice(kind, 3);
        }
        fill(x, 8);
        Stages.feed(x, FED);
        return x;
    }

    /** Room for nothing; THE TEXT has 100 bytes. */
    private static FarVoice full() {
        FarVoice x = new FarVoice();
        for (int s = 0; s < 8; s++) {
            x.seat(3 + 5 * s, 5 * s);
        }
        for (int n = 0; n < 10; n++) {
            x.voice(n % 7, 3);
        }
        fill(x, 20);
        for (int h = 2; h < 5; h++) {
            Stages.feed(x, "late 0");
            x.house();
        }
        Stages.feed(x, Stages.repeat("late", 25, ""));
        return x;
    }

    /** WORDS, an IMAGE of a stage and another stage, TAPES of all sorts but the last, a TRACE. */
    private static void fill(FarVoice x, int letters) {
        for (int i = 0; i < letters; i++) {
            x.say(i % 10);
        }
        Stages.feed(x, "late 0;hears 0 0 3;hears 4 0 5;hears 1 1 6;swap 2 7;ear 4 f>5;eye 3 t<9");
        x.house();
        x.mouth(19);
        x.jaw(23, 0x5555F0F0FL);
        x.slips(4);
        x.image();
        Stages.feed(x, "late 0;hears 0 0 4;hears 3 0 5;hears 2 1 6;swap 1 8;ear 6 f>7;eye 2 t<7");
        x.house();
        x.mouth(21);
        x.jaw(24, TENTHS);
        x.slips(7);
        int[] sorts = {1, 0, 2, 3, 4};
        for (int tape = 0; tape < 5; tape++) {
            x.tape(tape, sorts[tape], 3 + tape);
            x.item(tape, 1, 300 + tape);
            x.item(tape, 2, 21);
        }
        x.act(6, 1, 5);
    }

    // ---- all that can be seen of an object

    private static List<Long> seen(FarVoice x) {
        List<Long> all = new ArrayList<>();
        for (int what = 0; what < 8; what++) {
            all.add((long) x.count(what));
        }
        for (int i = 0; i < 6; i++) {
            all.add((long) x.trace(i));
        }
        for (int tape = 0; tape < 6; tape++) {
            for (int i = 0; i < 8; i++) {
                all.add(x.read(tape, i));
            }
        }
        for (int seat = 0; seat < 8; seat++) {
            all.add((long) x.of(seat, 0));
            all.add((long) x.of(seat, 1));
        }
        for (int voice = 0; voice < 10; voice++) {
            all.add((long) x.taken(voice, 0));
        }
        seeTheStage(x, all);
        all.add((long) x.house());
        all.add((long) x.told(0, 3));
        all.add((long) x.held(0, 0, 6, 0));
        all.add((long) x.undo());
        seeTheStage(x, all);
        return all;
    }

    /** What THE IMAGE holds, by calls that change it. */
    private static void seeTheStage(FarVoice x, List<Long> all) {
        for (int letter = 0; letter < 5; letter++) {
            for (int what = 0; what < 4; what++) {
                all.add((long) x.told(letter, what));
            }
        }
        for (int i = 0; i < 20; i++) {
            all.add((long) x.heard(0, 0, i, 0));
        }
        all.add((long) x.slips(4));
        int jaw = x.count(7);
        all.add((long) jaw);
        all.add((long) x.mouth(jaw));
        // with late 0, THE MOUTH where THE JAW is and a LETTER in every TENTH: JOINED is whether it moves
        x.say(-1);
        Stages.sayTimes(x, 0, 20);
        for (int tenth = 0; tenth < 40; tenth++) {
            all.add((long) x.held(0, 0, tenth, 3));
        }
    }

    private static void dueTheSame(String call, FarVoice x, FarVoice other) {
        List<Long> now = seen(x);
        List<Long> without = seen(other);
        for (int k = 0; k < without.size(); k++) {
            Check.due("look " + k + " after " + call, without.get(k), now.get(k));
        }
    }

    private static void onOpen(String call, long want, ToLongFunction<FarVoice> made) {
        FarVoice x = open();
        Check.due(call, want, made.applyAsLong(x));
        dueTheSame(call, x, open());
    }

    private static void onFull(String call, long want, ToLongFunction<FarVoice> made) {
        FarVoice x = full();
        Check.due(call + ", full", want, made.applyAsLong(x));
        dueTheSame(call + ", full", x, full());
    }

    private static void onBoth(String call, long want, ToLongFunction<FarVoice> made) {
        onOpen(call, want, made);
        onFull(call, want, made);
    }

    private static void asked(String call, ToLongFunction<FarVoice> made) {
        FarVoice x = open();
        made.applyAsLong(x);
        dueTheSame(call, x, open());
        FarVoice y = full();
        made.applyAsLong(y);
        dueTheSame(call + ", full", y, full());
    }

    /** Else no test of this class would see anything. */
    static void theLookSeesEveryChange() {
        Map<String, ToLongFunction<FarVoice>> changes = new LinkedHashMap<>();
        for (int bit = 0; bit < 40; bit++) {
            long tenths = TENTHS ^ 1L << bit;
            changes.put("tenth " + bit, x -> x.jaw(24, tenths));
        }
        changes.put("mouth", x -> x.mouth(22));
        changes.put("jaw", x -> x.jaw(25, TENTHS));
        changes.put("seat", x -> x.seat(1, 1));
        changes.put("say", x -> x.say(1));
        changes.put("say none", x -> x.say(-1));
        changes.put("feed", x -> x.feed('5', 1));
        changes.put("house", FarVoice::house);
        changes.put("voice", x -> x.voice(1, 1));
        changes.put("slips", x -> x.slips(1));
        changes.put("image", FarVoice::image);
        changes.put("undo", FarVoice::undo);
        changes.put("act", x -> x.act(0, 0, 0));
        changes.put("no such act", x -> x.act(0, 3, 0));
        changes.put("tape", x -> x.tape(5, 0, 1));
        changes.put("no tape", x -> x.tape(0, -1, 1));
        changes.put("item", x -> x.item(0, 0, 1));
        changes.put("shift", x -> x.shift(0, 1, 0, 0, 1));
        List<Long> before = seen(open());
        changes.forEach((name, change) -> {
            FarVoice x = open();
            change.applyAsLong(x);
            Check.due(name + " is not seen", 0, seen(x).equals(before) ? 1 : 0);
        });
    }

    // ---- "What is answered so changes nothing": the refusals of each call that changes something

    static void promise02RefusedChangesNothing() {
        onBoth("mouth(-1)", -1, x -> x.mouth(-1));
        onBoth("mouth(41)", -1, x -> x.mouth(41));
    }

    static void promise03RefusedChangesNothing() {
        onBoth("jaw(-1, 1)", -1, x -> x.jaw(-1, 1));
        onBoth("jaw(41, 1)", -1, x -> x.jaw(41, 1));
        onBoth("jaw(5, -1)", -2, x -> x.jaw(5, -1));
        onBoth("jaw(5, bit 40)", -2, x -> x.jaw(5, 1L << 40));
    }

    static void promise04RefusedChangesNothing() {
        onBoth("seat(0, 1)", -2, x -> x.seat(0, 1));
        onBoth("seat(41, 1)", -2, x -> x.seat(41, 1));
        onBoth("seat(1, -1)", -1, x -> x.seat(1, -1));
        onBoth("seat(1, 41)", -1, x -> x.seat(1, 41));
        onFull("seat(1, 1)", -4, x -> x.seat(1, 1));
    }

    static void promise06RefusedChangesNothing() {
        onBoth("say(-2)", -1, x -> x.say(-2));
        onBoth("say(10)", -1, x -> x.say(10));
        onFull("say(0)", -4, x -> x.say(0));
    }

    static void promise07RefusedChangesNothing() {
        onBoth("feed(53, -1)", -2, x -> x.feed(53, -1));
        onBoth("feed(53, 5)", -2, x -> x.feed(53, 5));
        onOpen("feed(53, 4)", -4, x -> x.feed(53, 4));
        for (int n = 1; n <= 4; n++) {
            int bytes = n;
            onFull("feed(53, " + n + ")", -4, x -> x.feed(53, bytes));
        }
    }

    static void promise07NoBytesChangeNothing() {
        onOpen("feed(53, 0)", 97, x -> x.feed(53, 0));
        onFull("feed(53, 0)", 100, x -> x.feed(53, 0));
    }

    static void promise08FullChangesNothing() {
        onFull("house()", -4, FarVoice::house);
    }

    static void promise10RefusedChangesNothing() {
        onBoth("voice(-1, 0)", -1, x -> x.voice(-1, 0));
        onBoth("voice(7, 0)", -1, x -> x.voice(7, 0));
        onBoth("voice(0, -1)", -2, x -> x.voice(0, -1));
        onBoth("voice(0, 10)", -2, x -> x.voice(0, 10));
        onFull("voice(0, 0)", -4, x -> x.voice(0, 0));
    }

    static void promise20RefusedChangesNothing() {
        onBoth("slips(-1)", -2, x -> x.slips(-1));
        onBoth("slips(11)", -2, x -> x.slips(11));
    }

    static void promise25RefusedChangesNothing() {
        FarVoice[] both = {new FarVoice(), new FarVoice()};
        for (FarVoice x : both) {
            x.seat(3, 18);
            x.voice(1, 2);
            x.say(4);
            x.mouth(17);
            x.jaw(18, 5);
            x.slips(3);
            Stages.feed(x, "late 0");
            x.house();
            Stages.feed(x, "late 4");
            x.tape(0, 1, 2);
            x.act(0, 2, 2);
        }
        Check.due("undo()", -3, both[0].undo());
        dueTheSame("undo()", both[0], both[1]);
    }

    static void promise30RefusedChangesNothing() {
        onBoth("tape(-1, 0, 1)", -1, x -> x.tape(-1, 0, 1));
        onBoth("tape(6, 0, 1)", -1, x -> x.tape(6, 0, 1));
        onBoth("tape(0, -2, 1)", -2, x -> x.tape(0, -2, 1));
        onBoth("tape(0, 5, 1)", -2, x -> x.tape(0, 5, 1));
        onBoth("tape(0, 0, 61)", -2, x -> x.tape(0, 0, 61));
        onBoth("tape(0, 0, -1)", -14, x -> x.tape(0, 0, -1));
    }

    static void promise31RefusedChangesNothing() {
        onBoth("item(-1, 0, 5)", -1, x -> x.item(-1, 0, 5));
        onBoth("item(6, 0, 5)", -1, x -> x.item(6, 0, 5));
        onBoth("item(5, 0, 5)", -11, x -> x.item(5, 0, 5));
        onBoth("item(0, -1, 5)", -13, x -> x.item(0, -1, 5));
        onBoth("item(0, 3, 5)", -13, x -> x.item(0, 3, 5));
    }

    static void promise33RefusedChangesNothing() {
        onBoth("shift(6, 1, 0, 0, 1)", -1, x -> x.shift(6, 1, 0, 0, 1));
        onBoth("shift(0, 1, -1, 0, 1)", -1, x -> x.shift(0, 1, -1, 0, 1));
        onBoth("shift(5, 1, 0, 0, 1)", -11, x -> x.shift(5, 1, 0, 0, 1));
        onBoth("shift(0, 1, 5, 0, 1)", -11, x -> x.shift(0, 1, 5, 0, 1));
        onBoth("shift(0, 1, 1, 0, 1)", -12, x -> x.shift(0, 1, 1, 0, 1));
        onBoth("shift(0, 1, 0, 0, 3)", -13, x -> x.shift(0, 1, 0, 0, 3));
        onBoth("shift(0, 0, 0, 1, 3)", -13, x -> x.shift(0, 0, 0, 1, 3));
        onBoth("shift(0, 1, 0, 0, -1)", -13, x -> x.shift(0, 1, 0, 0, -1));
        onBoth("shift(0, 0, 0, 0, 0)", 0, x -> x.shift(0, 0, 0, 0, 0));
    }

    // ---- "what is asked changes nothing": each call that asks, answered and refused

    static void askedOfSeatsAndHouses() {
        for (int n : NUMBERS) {
            asked("of(" + n + ", 0)", x -> x.of(n, 0));
            asked("of(0, " + n + ")", x -> x.of(0, n));
            asked("told(" + n + ", 0)", x -> x.told(n, 0));
            asked("told(0, " + n + ")", x -> x.told(0, n));
            asked("count(" + n + ")", x -> x.count(n));
            asked("boxes(1, " + n + ")", x -> x.boxes(1, n));
            asked("boxes(" + n + ", 1)", x -> x.boxes(n, 1));
            asked("boxes(2, " + n + ")", x -> x.boxes(2, n));
        }
    }

    static void askedOfVoices() {
        for (int n : NUMBERS) {
            asked("held(" + n + ", 0, 0, 0)", x -> x.held(n, 0, 0, 0));
            asked("held(0, " + n + ", 0, 0)", x -> x.held(0, n, 0, 0));
            asked("held(6, 1, " + n + ", 5)", x -> x.held(6, 1, n, 5));
            asked("held(6, 1, 7, " + n + ")", x -> x.held(6, 1, 7, n));
            asked("heard(5, 1, " + n + ", 1)", x -> x.heard(5, 1, n, 1));
            asked("heard(" + n + ", 1, 3, 2)", x -> x.heard(n, 1, 3, 2));
            asked("houseful(1, " + n + ")", x -> x.houseful(1, n));
            asked("houseful(" + n + ", -1)", x -> x.houseful(n, -1));
            asked("taken(" + n + ", 0)", x -> x.taken(n, 0));
            asked("taken(6, " + n + ")", x -> x.taken(6, n));
        }
    }

    static void askedOfRows() {
        for (int n : NUMBERS) {
            asked("drawn(1, 1, " + n + ")", x -> x.drawn(1, 1, n));
            asked("drawn(" + n + ", 1, 5)", x -> x.drawn(n, 1, 5));
            asked("latest(" + n + ", 1)", x -> x.latest(n, 1));
            asked("latest(6, " + n + ")", x -> x.latest(6, n));
            asked("wrong(" + n + ", 1)", x -> x.wrong(n, 1));
            asked("swap(2, " + n + ", 0)", x -> x.swap(2, n, 0));
            asked("swap(2, 1, " + n + ")", x -> x.swap(2, 1, n));
            asked("changed(" + n + ", 1)", x -> x.changed(n, 1));
            asked("sure(0, 1, " + n + ", 0)", x -> x.sure(0, 1, n, 0));
            asked("sure(0, 1, 5, " + n + ")", x -> x.sure(0, 1, 5, n));
            asked("changes(0, 1, 2, " + n + ")", x -> x.changes(0, 1, 2, n));
            asked("changes(0, " + n + ", 2, 1)", x -> x.changes(0, n, 2, 1));
        }
    }

    static void askedOfTapesAndTheTrace() {
        for (int n : NUMBERS) {
            asked("judge(" + n + ", 0, 0, 0)", x -> x.judge(n, 0, 0, 0));
            asked("judge(0, " + n + ", 0, 0)", x -> x.judge(0, n, 0, 0));
            asked("judge(0, 0, " + n + ", 0)", x -> x.judge(0, 0, n, 0));
            asked("read(" + n + ", 1)", x -> x.read(n, 1));
            asked("read(0, " + n + ")", x -> x.read(0, n));
            asked("trace(" + n + ")", x -> x.trace(n));
        }
    }
}
