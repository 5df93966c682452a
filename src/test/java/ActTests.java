/** Promises 26 to 28, 30 to 33: acts, tapes. */
final class ActTests {
    private ActTests() {
    }

    private static void due(String call, long want, long got) {
        Check.due(call, want, got);
    }

    private static void dueTrace(String what, FarVoice x, int... bodies) {
        due("how many bodies ran: " + what, bodies.length, x.count(5));
        for (int i = 0; i < bodies.length; i++) {
            due("trace(" + i + "): " + what, bodies[i], x.trace(i));
        }
        due("no more: " + what, -1, x.trace(bodies.length));
        due("none beyond that: " + what, -1, x.trace(bodies.length + 1));
        due("none below 0: " + what, -1, x.trace(-1));
    }

    private static FarVoice sevenKinds() {
        FarVoice x = new FarVoice();
        for (int kind = 0; kind < 7; kind++) {
            x.voice(kind, kind + 2);
        }
        return x;
    }

    static void promise26Act() {
        FarVoice x = sevenKinds();
        due("VOICE 0 hears", 100, x.act(0, 0, 100));
        due("VOICE 0 sees", 98, x.act(0, 1, 100));
        due("VOICE 0 tells", 196, x.act(0, 2, 100));
        due("NEAR 1 hears", 101, x.act(1, 0, 100));
        due("NEAR 1 sees", 98 ^ 6, x.act(1, 1, 100));
        due("NEAR 1 tells", (98 ^ 6) * 2, x.act(1, 2, 100));
        due("BOXED 2 hears", 302, x.act(2, 0, 100));
        due("BOXED 2 sees", 298, x.act(2, 1, 100));
        due("BOXED 2 tells", 596, x.act(2, 2, 100));
        due("FAR 3 hears", 103, x.act(3, 0, 100));
        due("FAR 3 sees", 98, x.act(3, 1, 100));
        due("FAR 3 tells", 98 * 2 + (1 + 3 - 5), x.act(3, 2, 100));
        due("DOUBLED 4 hears", -104, x.act(4, 0, 100));
        due("DOUBLED 4 sees", (-105 - 6) ^ 6, x.act(4, 1, 100));
        due("DOUBLED 4 tells", ((-105 - 6) ^ 6) * 2, x.act(4, 2, 100));
        due("SWAPPED 5 hears", 305, x.act(5, 0, 100));
        due("SWAPPED 5 sees", 298, x.act(5, 1, 100));
        due("SWAPPED 5 tells", (95 * 3 + 5 - 7) * 2, x.act(5, 2, 100));
        int hears = 106 ^ 8;
        due("DUBBED 6 hears", hears, x.act(6, 0, 100));
        due("DUBBED 6 sees", hears - 8 + 8, x.act(6, 1, 100));
        due("DUBBED 6 tells", hears * 2 + ((7 ^ 8) - 8 + 8), x.act(6, 2, 100));
        due("wrapping", Integer.MIN_VALUE, x.act(1, 0, Integer.MAX_VALUE));
        due("wrapping by three", Integer.MAX_VALUE * 3 + 2, x.act(2, 0, Integer.MAX_VALUE));
    }

    static void promise26NoSuch() {
        FarVoice x = sevenKinds();
        int[][] calls = {{7, 0}, {-1, 0}, {0, 3}, {0, -1}};
        for (int[] call : calls) {
            x.act(0, 2, 5);
            due("bodies that ran", 3, x.count(5));
            due("no such voice or act", 0, x.act(call[0], call[1], 5));
            dueTrace("then", x);
        }
    }

    static void promise27Trace() {
        FarVoice x = sevenKinds();
        dueTrace("ahead of all", x);
        x.act(0, 2, 1);
        dueTrace("VOICE tells", x, 12, 11, 10);
        x.act(1, 2, 1);
        dueTrace("NEAR tells", x, 12, 20, 11, 10);
        x.act(2, 0, 1);
        dueTrace("BOXED hears", x, 30, 10);
        x.act(2, 2, 1);
        dueTrace("BOXED tells", x, 12, 11, 30, 10);
        x.act(3, 2, 1);
        dueTrace("FAR tells", x, 40, 12, 11, 10, 11, 10);
        x.act(4, 2, 1);
        dueTrace("DOUBLED tells", x, 12, 51, 20, 11, 50, 10);
        x.act(5, 2, 1);
        dueTrace("SWAPPED tells", x, 60, 12, 11, 30, 10);
        x.act(6, 1, 1);
        dueTrace("DUBBED sees", x, 70, 11, 71, 10, 10);
        x.act(6, 2, 1);
        dueTrace("DUBBED tells", x, 40, 12, 70, 11, 71, 10, 10, 70, 11, 71, 10, 10);
        x.act(0, 0, 1);
        dueTrace("the latest alone", x, 10);
        x.image();
        x.act(0, 1, 1);
        x.undo();
        dueTrace("undo leaves it", x, 11, 10);
    }

    static void promise28Taken() {
        FarVoice x = sevenKinds();
        int[] above = {-1, 0, 0, 0, 1, 2, 3};
        for (int kind = 0; kind < 7; kind++) {
            for (int k = 0; k < 7; k++) {
                boolean isOne = k == kind || k == above[kind] || k == 0;
                due("taken(" + kind + ", " + k + ")", isOne ? kind : -12, x.taken(kind, k));
            }
        }
        due("taken(0, 7)", -2, x.taken(0, 7));
        due("taken(9, -1)", -2, x.taken(9, -1));
        due("taken(7, 0)", -11, x.taken(7, 0));
        due("taken(-1, 6)", -11, x.taken(-1, 6));
    }

    static void promise30Tape() {
        FarVoice x = new FarVoice();
        due("tape(6, 9, 99)", -1, x.tape(6, 9, 99));
        due("tape(-1, 0, 1)", -1, x.tape(-1, 0, 1));
        due("tape(0, 5, -1)", -2, x.tape(0, 5, -1));
        due("tape(0, -2, 1)", -2, x.tape(0, -2, 1));
        due("tape(0, 0, 61)", -2, x.tape(0, 0, 61));
        due("tape(0, 0, -1)", -14, x.tape(0, 0, -1));
        due("still nothing", -11, x.item(0, 0, 0));
        due("tape(0, 3, 60)", 1, x.tape(0, 3, 60));
        due("item 0", 1, x.item(0, 0, 5));
        due("item 59", 1, x.item(0, 59, 5));
        due("no item 60", -13, x.item(0, 60, 5));
        due("a refused tape", -2, x.tape(0, 1, 61));
        due("changes nothing", 5, x.read(0, 59));
        due("tape(0, 2, 60)", 1, x.tape(0, 2, 60));
        due("all 0", 0, x.read(0, 0));
        due("all 0", 0, x.read(0, 59));
        due("tape(0, 2, 0)", 1, x.tape(0, 2, 0));
        due("a row of none", -13, x.item(0, 0, 1));
        due("tape(0, -1, 999)", 1, x.tape(0, -1, 999));
        due("nothing then", -11, x.item(0, 0, 1));
        due("nothing to read", FarVoice.NO, x.read(0, 0));
        due("tape(5, -1, -9)", 1, x.tape(5, -1, -9));
    }

    static void promise31Item() {
        FarVoice x = new FarVoice();
        for (int sort = 0; sort < 5; sort++) {
            x.tape(sort, sort, 4);
        }
        long[] values = {-1, 0x1234567890ABCDEFL, 1L << 40, Long.MIN_VALUE, 200, 70000, 0, 256, 3000000000L};
        for (long v : values) {
            long[] wants = {(byte) v, (short) v, (int) v, v, v != 0 ? 1 : 0};
            for (int sort = 0; sort < 5; sort++) {
                due("item", 1, x.item(sort, 2, v));
                due("sort " + sort + " of " + v, wants[sort], x.read(sort, 2));
                due("the item beside it", 0, x.read(sort, 3));
            }
        }
        due("item(6, 0, 1)", -1, x.item(6, 0, 1));
        due("item(-1, 0, 1)", -1, x.item(-1, 0, 1));
        due("item(5, 9, 1)", -11, x.item(5, 9, 1));
        due("item(0, 4, 1)", -13, x.item(0, 4, 1));
        due("item(0, -1, 1)", -13, x.item(0, -1, 1));
        due("item(0, min, 1)", -13, x.item(0, Integer.MIN_VALUE, 1));
    }

    static void promise32Read() {
        FarVoice x = new FarVoice();
        x.tape(1, 3, 2);
        x.item(1, 0, -7);
        due("read(1, 0)", -7, x.read(1, 0));
        due("read(1, 1)", 0, x.read(1, 1));
        due("read(1, 2)", FarVoice.NO, x.read(1, 2));
        due("read(1, -1)", FarVoice.NO, x.read(1, -1));
        due("read(0, 0)", FarVoice.NO, x.read(0, 0));
        due("read(6, 0)", FarVoice.NO, x.read(6, 0));
        due("read(-1, 0)", FarVoice.NO, x.read(-1, 0));
    }

    private static FarVoice counted() {
        FarVoice x = new FarVoice();
        for (int tape = 0; tape < 3; tape++) {
            x.tape(tape, tape == 2 ? 2 : 0, 6);
            for (int i = 0; i < 6; i++) {
                x.item(tape, i, 10 * tape + i);
            }
        }
        return x;
    }

    private static void dueItems(FarVoice x, int tape, int... wants) {
        for (int i = 0; i < wants.length; i++) {
            due("item " + i + " of " + tape, wants[i], x.read(tape, i));
        }
    }

    static void promise33Shift() {
        FarVoice x = counted();
        due("shift(0, 1, 1, 3, 3)", 3, x.shift(0, 1, 1, 3, 3));
        dueItems(x, 1, 10, 11, 12, 1, 2, 3);
        dueItems(x, 0, 0, 1, 2, 3, 4, 5);
        due("up in itself", 4, x.shift(0, 0, 0, 2, 4));
        dueItems(x, 0, 0, 1, 0, 1, 2, 3);
        x = counted();
        due("down in itself", 4, x.shift(0, 2, 0, 0, 4));
        dueItems(x, 0, 2, 3, 4, 5, 4, 5);
        due("the whole row", 6, x.shift(0, 0, 1, 0, 6));
        dueItems(x, 1, 2, 3, 4, 5, 4, 5);
        due("none from the ends on", 0, x.shift(0, 6, 1, 6, 0));
    }

    static void promise33Refusals() {
        FarVoice x = counted();
        due("no such tape", -1, x.shift(6, 0, 0, 0, 1));
        due("no such other tape", -1, x.shift(5, 0, -1, 0, 1));
        due("nothing there", -11, x.shift(3, 0, 0, 0, 1));
        due("nothing in the other", -11, x.shift(0, 0, 3, 0, -1));
        due("nothing in itself", -11, x.shift(3, 0, 3, 0, 0));
        due("unlike sorts", -12, x.shift(0, 0, 2, 0, -1));
        int[][] places = {
            {-1, 0, 1}, {0, -1, 1}, {0, 0, -1}, {0, 0, 7}, {1, 0, 6}, {0, 1, 6}, {7, 0, 0}, {0, 7, 0},
            {Integer.MAX_VALUE, 0, 1}, {1, 0, Integer.MAX_VALUE}, {0, Integer.MAX_VALUE, Integer.MAX_VALUE},
            {Integer.MIN_VALUE, 0, 0}, {6, 6, 1},
        };
        for (int[] p : places) {
            due("shift(0, " + p[0] + ", 1, " + p[1] + ", " + p[2] + ")", -13, x.shift(0, p[0], 1, p[1], p[2]));
        }
        dueItems(x, 0, 0, 1, 2, 3, 4, 5);
        dueItems(x, 1, 10, 11, 12, 13, 14, 15);
    }
}
