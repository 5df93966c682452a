/**
 * Edges of judging, acts and TAPES: promises 23, 26 to 28 and 30 to 33. Above each test stands the
 * sentence of the document that names its edge.
 */
final class TapeEdgeTests {
    private static final int LEAST = Integer.MIN_VALUE, MOST = Integer.MAX_VALUE;
    private static final int[] NO_SUCH_TAPE = {-1, 6, LEAST, MOST};
    private static final int HEARS = 0, SEES = 1, TELLS = 2;
    private static final int BYTES = 0, SHORTS = 1, INTS = 2, LONGS = 3, BOOLEANS = 4;

    private TapeEdgeTests() {
    }

    private static void due(String call, long want, long got) {
        Check.due(call, want, got);
    }

    // ---- promise 23: "PLACES told by a row of shorts, from a place on, TENTH by TENTH from 0 on"

    /** A VOICE that is held to be at 20 in every TENTH; TAPE 0 is a row of so many shorts, all 20. */
    private static FarVoice judged(int letters, int shorts) {
        FarVoice x = Stages.one(0, 0);
        Stages.sayTimes(x, 3, letters);
        x.tape(0, SHORTS, shorts);
        for (int i = 0; i < shorts; i++) {
            x.item(0, i, 20);
        }
        return x;
    }

    // "-5: none, or there is none to look at"
    static void promise23NoneIsOtherwise() {
        due("as many as are said in", -5, judged(2, 4).judge(0, 0, 0, 0));
        due("one more", -5, judged(2, 5).judge(0, 0, 0, 0));
        due("all forty", -5, judged(20, 40).judge(0, 0, 0, 0));
        due("the last forty of sixty", -5, judged(20, 60).judge(0, 20, 0, 0));
    }

    static void promise23NoneToLookAt() {
        due("nothing said", -5, judged(0, 4).judge(0, 0, 0, 0));
        due("nothing said, a row of none", -5, judged(0, 0).judge(0, 0, 0, 0));
        due("nothing said, from its end on", -5, judged(0, 4).judge(0, 4, 0, 0));
    }

    // -5 is named ahead of 100
    static void promise23NoneToLookAtThoughThePlaceIsNone() {
        FarVoice x = judged(0, 4);
        due("from -1 on", -5, x.judge(0, -1, 0, 0));
        due("from beyond its end on", -5, x.judge(0, 5, 0, 0));
        due("of a TAPE that holds nothing", -5, x.judge(1, 0, 0, 0));
    }

    // "the first TENTH that is otherwise"
    static void promise23TheFirstTenthIsOtherwise() {
        FarVoice x = judged(2, 4);
        x.item(0, 0, 21);
        due("judge", 0, x.judge(0, 0, 0, 0));
    }

    static void promise23TheLastTenthIsOtherwise() {
        FarVoice x = judged(20, 40);
        x.item(0, 39, 19);
        due("judge", 39, x.judge(0, 0, 0, 0));
    }

    static void promise23OfSeveralTheFirst() {
        FarVoice x = judged(2, 4);
        x.item(0, 1, 21);
        x.item(0, 2, 21);
        due("judge", 1, x.judge(0, 0, 0, 0));
    }

    // "(as many as are said in)"
    static void promise23LooksNoFartherThanWords() {
        FarVoice x = judged(2, 5);
        x.item(0, 4, 3);
        due("judge", -5, x.judge(0, 0, 0, 0));
    }

    static void promise23FromAPlaceOn() {
        FarVoice x = judged(2, 9);
        x.item(0, 2, 3);
        due("from 3 on", -5, x.judge(0, 3, 0, 0));
        due("from 2 on", 0, x.judge(0, 2, 0, 0));
        due("from 0 on", 2, x.judge(0, 0, 0, 0));
    }

    // "100 and how many were looked at, if the row ends ahead of that"
    static void promise23TheRowEndsTooEarly() {
        for (int shorts = 0; shorts < 40; shorts++) {
            due("after " + shorts, 100 + shorts, judged(20, shorts).judge(0, 0, 0, 0));
        }
    }

    static void promise23OtherwiseAheadOfTheEnd() {
        FarVoice x = judged(2, 3);
        x.item(0, 2, 3);
        due("judge", 2, x.judge(0, 0, 0, 0));
    }

    static void promise23FromTheEndOn() {
        FarVoice x = judged(2, 4);
        due("the last one alone", 101, x.judge(0, 3, 0, 0));
        due("from its end on", 100, x.judge(0, 4, 0, 0));
        due("from beyond its end on", 100, x.judge(0, 5, 0, 0));
        due("from most on", 100, x.judge(0, MOST, 0, 0));
    }

    // "(or the place is below 0, ..)"
    static void promise23FromBelow0On() {
        FarVoice x = judged(2, 4);
        due("from -1 on", 100, x.judge(0, -1, 0, 0));
        due("from least on", 100, x.judge(0, LEAST, 0, 0));
    }

    // "(.. or the TAPE holds nothing)"
    static void promise23OfATapeThatHoldsNothing() {
        FarVoice x = judged(2, 4);
        due("one that never was a row", 100, x.judge(1, 0, 0, 0));
        x.tape(0, -1, 0);
        due("one that is no row any more", 100, x.judge(0, 0, 0, 0));
    }

    // "CAST: it is no row of shorts"
    static void promise23OtherSorts() {
        FarVoice x = judged(2, 4);
        for (int sort : new int[] {BYTES, INTS, LONGS, BOOLEANS}) {
            x.tape(1, sort, 4);
            due("a row of sort " + sort, -12, x.judge(1, 0, 0, 0));
            x.tape(1, sort, 0);
            due("a row of none of sort " + sort, -12, x.judge(1, 0, 0, 0));
            due("from -1 on", -12, x.judge(1, -1, 0, 0));
        }
    }

    static void promise23OtherSortsThoughNothingIsSaid() {
        FarVoice x = judged(0, 4);
        x.tape(1, BYTES, 4);
        due("judge", -12, x.judge(1, 0, 0, 0));
    }

    // "NONE: tape, voice, seat"
    static void promise23NoSuch() {
        FarVoice x = judged(2, 4);
        for (int none : NO_SUCH_TAPE) {
            due("judge(" + none + ", 0, 0, 0)", -1, x.judge(none, 0, 0, 0));
        }
        for (int none : new int[] {-1, 1, LEAST, MOST}) {
            due("judge(0, 0, " + none + ", 0)", -1, x.judge(0, 0, none, 0));
            due("judge(0, 0, 0, " + none + ")", -1, x.judge(0, 0, 0, none));
        }
    }

    static void promise23NoneIsNamedAheadOfAll() {
        FarVoice x = judged(0, 4);
        x.tape(1, BYTES, 4);
        due("another sort, no such voice", -1, x.judge(1, 0, 1, 0));
        due("another sort, no such seat", -1, x.judge(1, 0, 0, 1));
        due("nothing said, no such seat", -1, x.judge(0, 0, 0, 1));
        due("no such tape, place, voice, seat", -1, x.judge(6, -1, 1, 1));
    }

    static void promise23TheLastTape() {
        FarVoice x = judged(1, 0);
        x.tape(5, SHORTS, 2);
        x.item(5, 0, 20);
        due("judge(5, 0, 0, 0)", 1, x.judge(5, 0, 0, 0));
    }

    static void promise23OfThatTapeVoiceAndSeat() {
        FarVoice x = Stages.three();
        int[][] held = {{20, 25, 20}, {25, 25, 23}, {11, 11, 11}};
        int[] places = {20, 25, 23, 11};
        for (int tape = 0; tape < 4; tape++) {
            x.tape(tape, SHORTS, 4);
            for (int i = 0; i < 4; i++) {
                x.item(tape, i, places[tape]);
            }
            for (int v = 0; v < 3; v++) {
                for (int s = 0; s < 3; s++) {
                    due("tape " + tape + " voice " + v + " seat " + s, held[v][s] == places[tape] ? -5 : 0,
                        x.judge(tape, 0, v, s));
                }
            }
        }
    }

    // a short that comes round to a PLACE is that PLACE
    static void promise23ShortsThatComeRound() {
        FarVoice x = judged(1, 2);
        x.item(0, 0, 65536 + 20);
        due("65556", -5, x.judge(0, 0, 0, 0));
        x.item(0, 1, -20);
        due("-20", 1, x.judge(0, 0, 0, 0));
    }

    // ---- promise 26: "ACTS of a VOICE with x (wrapping)"

    /** VOICES 0 and 1 are of that KIND, 1 with that v. */
    private static FarVoice actor(int kind, int v) {
        FarVoice x = new FarVoice();
        x.voice(kind, 0);
        x.voice(kind, v);
        return x;
    }

    static void promise26HearsWraps() {
        due("x + i beyond most", LEAST, actor(0, 0).act(1, HEARS, MOST));
        due("x + i at most", MOST, actor(0, 0).act(0, HEARS, MOST));
        due("x + i at least", LEAST + 1, actor(0, 0).act(1, HEARS, LEAST));
    }

    static void promise26SeesWraps() {
        due("hears(x) - v below least", MOST - 1, actor(0, 3).act(1, SEES, LEAST));
        due("hears(x) - v at least", LEAST, actor(0, 1).act(1, SEES, LEAST));
    }

    static void promise26TellsWraps() {
        due("2 ^ 30 twice", LEAST, actor(0, 0).act(0, TELLS, 1 << 30));
        due("least twice", 0, actor(0, 0).act(0, TELLS, LEAST));
        due("most twice", -2, actor(0, 0).act(0, TELLS, MOST));
    }

    static void promise26NearWraps() {
        due("sees: least ^ 6", LEAST + 6, actor(1, 0).act(0, SEES, LEAST));
        due("sees: -1 ^ 6", -7, actor(1, 0).act(0, SEES, -1));
    }

    static void promise26BoxedWraps() {
        due("hears: most * 3", MOST - 2, actor(2, 0).act(0, HEARS, MOST));
        due("hears: least * 3", LEAST, actor(2, 0).act(0, HEARS, LEAST));
        due("hears: 715827883 * 3", LEAST + 1, actor(2, 0).act(0, HEARS, 715827883));
    }

    static void promise26FarWraps() {
        // sees(1) of voice 0 is 1
        due("tells: most is -2 and 1", -1, actor(3, 0).act(0, TELLS, MOST));
        // 2 * 1073741823 is most - 1; sees(1) of voice 1 with v 0 is 2
        due("tells: most - 1 and 2", LEAST, actor(3, 0).act(1, TELLS, 1073741822));
    }

    static void promise26DoubledWraps() {
        due("hears: - least", LEAST, actor(4, 0).act(0, HEARS, LEAST));
        due("hears: - most", LEAST + 1, actor(4, 0).act(0, HEARS, MOST));
        // x + 1 is least; - least is least; less 0; ^ 6
        due("sees: most + 1", LEAST + 6, actor(4, 0).act(0, SEES, MOST));
    }

    static void promise26SwappedWraps() {
        // x - i is most; most * 3 is most - 2; and 1, less 0, twice
        due("tells: least - 1", -4, actor(5, 0).act(1, TELLS, LEAST));
    }

    static void promise26DubbedWraps() {
        due("hears: (most + 1) ^ 9", LEAST + 9, actor(6, 9).act(1, HEARS, MOST));
        // hears(most - 1) is most; less 0; and 2 + 1
        due("sees: most and 3", LEAST + 2, actor(6, 0).act(1, SEES, MOST - 1));
    }

    static void promise26OfTheLastVoice() {
        FarVoice x = new FarVoice();
        for (int n = 0; n < 10; n++) {
            x.voice(0, 9 - n);
        }
        due("hears: x + 9", 14, x.act(9, HEARS, 5));
        due("sees: x + 9 - 0", 14, x.act(9, SEES, 5));
        due("sees: x + 0 - 9", -4, x.act(0, SEES, 5));
    }

    // "0, and no TRACE then: no such VOICE, act"
    static void promise26NoSuchVoice() {
        FarVoice x = actor(0, 0);
        for (int none : new int[] {-1, 2, 10, LEAST, MOST}) {
            x.act(0, TELLS, 7);
            due("a trace", 12, x.trace(0));
            due("act(" + none + ", 0, 7)", 0, x.act(none, HEARS, 7));
            due("no trace", -1, x.trace(0));
            due("no bodies", 0, x.count(5));
        }
    }

    static void promise26NoSuchAct() {
        FarVoice x = actor(0, 0);
        for (int none : new int[] {-1, 3, LEAST, MOST}) {
            x.act(0, TELLS, 7);
            due("a trace", 12, x.trace(0));
            due("act(0, " + none + ", 7)", 0, x.act(0, none, 7));
            due("no trace", -1, x.trace(0));
            due("no bodies", 0, x.count(5));
        }
    }

    static void promise26TheFirstAndTheLastAct() {
        FarVoice x = actor(0, 0);
        due("hears", 7, x.act(0, HEARS, 7));
        due("tells", 14, x.act(0, TELLS, 7));
    }

    // ---- promise 27: "THE TRACE's i-th body. NONE."

    static void promise27AheadOfAnyAct() {
        FarVoice x = actor(0, 0);
        due("trace(0)", -1, x.trace(0));
        due("count(5)", 0, x.count(5));
    }

    static void promise27TooLowAndTooHigh() {
        FarVoice x = actor(0, 0);
        x.act(0, TELLS, 1);
        due("trace(0)", 12, x.trace(0));
        due("trace(2)", 10, x.trace(2));
        due("trace(3)", -1, x.trace(3));
        due("trace(-1)", -1, x.trace(-1));
        due("trace(19)", -1, x.trace(19));
        due("trace(20)", -1, x.trace(20));
        due("trace(least)", -1, x.trace(LEAST));
        due("trace(most)", -1, x.trace(MOST));
    }

    // "in the latest act()": nothing of a longer one before it
    static void promise27OfTheLatestAlone() {
        FarVoice x = actor(6, 0);
        x.act(0, TELLS, 1);
        due("twelve bodies", 12, x.count(5));
        due("the twelfth", 10, x.trace(11));
        x.act(0, HEARS, 1);
        due("two bodies", 2, x.count(5));
        due("the first", 71, x.trace(0));
        due("the second", 10, x.trace(1));
        due("no third", -1, x.trace(2));
    }

    // "the first 20 are kept": twelve is the most that any act runs
    static void promise27TheLongestActs() {
        int[] most = {3, 4, 4, 6, 6, 5, 12};
        for (int kind = 0; kind < 7; kind++) {
            FarVoice x = actor(kind, 9);
            x.act(1, TELLS, 3);
            due("bodies of kind " + kind, most[kind], x.count(5));
            for (int i = 0; i < most[kind]; i++) {
                due("body " + i + " is kept", 1, x.trace(i) >= 10 ? 1 : 0);
            }
            due("no more", -1, x.trace(most[kind]));
        }
    }

    // ---- promise 28: "A VOICE taken for one of KIND k (0 .. 6), or one under that: its KIND"

    static void promise28AsItsOwnKind() {
        for (int kind = 0; kind < 7; kind++) {
            due("kind " + kind, kind, actor(kind, 0).taken(0, kind));
        }
    }

    static void promise28AsAKindAboveIt() {
        int[][] rows = {{1, 0}, {2, 0}, {3, 0}, {4, 1}, {4, 0}, {5, 2}, {5, 0}, {6, 3}, {6, 0}};
        for (int[] row : rows) {
            due("kind " + row[0] + " as " + row[1], row[0], actor(row[0], 0).taken(0, row[1]));
        }
    }

    static void promise28AsAKindUnderIt() {
        int[][] rows = {{0, 1}, {0, 2}, {0, 3}, {0, 4}, {0, 6}, {1, 4}, {2, 5}, {3, 6}};
        for (int[] row : rows) {
            due("kind " + row[0] + " as " + row[1], -12, actor(row[0], 0).taken(0, row[1]));
        }
    }

    static void promise28AsAKindBesideIt() {
        int[][] rows = {{1, 2}, {2, 1}, {1, 3}, {4, 2}, {4, 3}, {4, 5}, {5, 1}, {5, 4}, {5, 6}, {6, 1}, {6, 2}, {6, 5}};
        for (int[] row : rows) {
            due("kind " + row[0] + " as " + row[1], -12, actor(row[0], 0).taken(0, row[1]));
        }
    }

    // "BAD: k"
    static void promise28NoSuchKind() {
        for (int k : new int[] {-1, 7, LEAST, MOST}) {
            due("taken(0, " + k + ")", -2, actor(6, 0).taken(0, k));
        }
    }

    // "NOTHING: no such VOICE"
    static void promise28NoSuchVoice() {
        for (int none : new int[] {-1, 2, LEAST, MOST}) {
            due("taken(" + none + ", 0)", -11, actor(0, 0).taken(none, 0));
        }
        due("taken(0, 0), no voices", -11, new FarVoice().taken(0, 0));
    }

    static void promise28TheOrderOfRefusals() {
        due("taken(2, 7)", -2, actor(0, 0).taken(2, 7));
        due("taken(-1, -1)", -2, actor(0, 0).taken(-1, -1));
        due("taken(2, 6)", -11, actor(0, 0).taken(2, 6));
    }

    // ---- promise 30: "A TAPE becomes a row of n (0 .. 60) of a sort, all 0"

    static void promise30OfNone() {
        FarVoice x = new FarVoice();
        for (int sort = 0; sort < 5; sort++) {
            due("tape(0, " + sort + ", 0)", 1, x.tape(0, sort, 0));
            due("item(0, 0, 1)", -13, x.item(0, 0, 1));
            due("read(0, 0)", FarVoice.NO, x.read(0, 0));
            due("shift(0, 0, 0, 0, 0)", 0, x.shift(0, 0, 0, 0, 0));
        }
    }

    static void promise30OfSixty() {
        FarVoice x = new FarVoice();
        for (int sort = 0; sort < 5; sort++) {
            due("tape(0, " + sort + ", 60)", 1, x.tape(0, sort, 60));
            due("read(0, 59)", 0, x.read(0, 59));
            due("item(0, 59, 1)", 1, x.item(0, 59, 1));
            due("read(0, 59)", 1, x.read(0, 59));
            due("item(0, 60, 1)", -13, x.item(0, 60, 1));
        }
    }

    static void promise30AllZero() {
        FarVoice x = new FarVoice();
        x.tape(0, LONGS, 60);
        for (int i = 0; i < 60; i++) {
            x.item(0, i, -1);
        }
        x.tape(0, LONGS, 60);
        for (int i = 0; i < 60; i++) {
            due("read(0, " + i + ")", 0, x.read(0, i));
        }
    }

    static void promise30ShorterAndLongerAgain() {
        FarVoice x = new FarVoice();
        x.tape(0, BYTES, 5);
        x.item(0, 4, 9);
        x.tape(0, BYTES, 3);
        due("read(0, 4)", FarVoice.NO, x.read(0, 4));
        x.tape(0, BYTES, 5);
        due("read(0, 4)", 0, x.read(0, 4));
    }

    // "or holds nothing (sort -1: n does not matter)"
    static void promise30HoldsNothing() {
        for (int n : new int[] {0, 1, 60, 61, -1, LEAST, MOST}) {
            FarVoice x = new FarVoice();
            x.tape(0, INTS, 4);
            due("tape(0, -1, " + n + ")", 1, x.tape(0, -1, n));
            due("item(0, 0, 1)", -11, x.item(0, 0, 1));
            due("read(0, 0)", FarVoice.NO, x.read(0, 0));
        }
    }

    static void promise30NothingOfNothing() {
        due("tape(0, -1, 0)", 1, new FarVoice().tape(0, -1, 0));
    }

    // "NONE: tape"
    static void promise30NoSuchTape() {
        FarVoice x = new FarVoice();
        for (int none : NO_SUCH_TAPE) {
            due("tape(" + none + ", 0, 1)", -1, x.tape(none, 0, 1));
            due("tape(" + none + ", -1, 1)", -1, x.tape(none, -1, 1));
        }
    }

    static void promise30TheFirstAndTheLastTape() {
        FarVoice x = new FarVoice();
        due("tape(0, 0, 1)", 1, x.tape(0, 0, 1));
        due("tape(5, 0, 2)", 1, x.tape(5, 0, 2));
        due("read(0, 1)", FarVoice.NO, x.read(0, 1));
        due("read(5, 1)", 0, x.read(5, 1));
    }

    // "BAD: sort, n above 60"
    static void promise30NoSuchSort() {
        FarVoice x = new FarVoice();
        for (int sort : new int[] {-2, 5, LEAST, MOST}) {
            due("tape(0, " + sort + ", 1)", -2, x.tape(0, sort, 1));
        }
        due("item(0, 0, 1)", -11, x.item(0, 0, 1));
    }

    static void promise30TooLong() {
        FarVoice x = new FarVoice();
        for (int sort = 0; sort < 5; sort++) {
            due("tape(0, " + sort + ", 61)", -2, x.tape(0, sort, 61));
            due("tape(0, " + sort + ", most)", -2, x.tape(0, sort, MOST));
        }
        due("item(0, 0, 1)", -11, x.item(0, 0, 1));
    }

    // "SIZE (-14): a size below 0"
    static void promise30SizeBelow0() {
        FarVoice x = new FarVoice();
        for (int sort = 0; sort < 5; sort++) {
            due("tape(0, " + sort + ", -1)", -14, x.tape(0, sort, -1));
            due("tape(0, " + sort + ", least)", -14, x.tape(0, sort, LEAST));
        }
        due("item(0, 0, 1)", -11, x.item(0, 0, 1));
    }

    static void promise30TheOrderOfRefusals() {
        FarVoice x = new FarVoice();
        due("no such tape, no such sort", -1, x.tape(6, 5, -1));
        due("no such tape, a size below 0", -1, x.tape(-1, 0, -1));
        due("no such sort, a size below 0", -2, x.tape(0, 5, -1));
        due("no such sort, a size below 0", -2, x.tape(0, -2, -1));
    }

    static void promise30RefusedKeepsTheRow() {
        FarVoice x = new FarVoice();
        x.tape(0, INTS, 2);
        x.item(0, 1, 70000);
        due("tape(0, 0, 61)", -2, x.tape(0, 0, 61));
        due("tape(0, 5, 1)", -2, x.tape(0, 5, 1));
        due("tape(0, 0, -1)", -14, x.tape(0, 0, -1));
        due("read(0, 1)", 70000, x.read(0, 1));
        due("read(0, 2)", FarVoice.NO, x.read(0, 2));
        x.item(0, 0, 70000);
        due("a row of ints", 70000, x.read(0, 0));
    }

    // ---- promise 31: "(its lowest bits, as many as an item has; booleans: whether v is not 0)"

    private static void dueItem(int sort, long v, long item) {
        FarVoice x = new FarVoice();
        x.tape(0, sort, 1);
        due("item(0, 0, " + v + ")", 1, x.item(0, 0, v));
        due("an item of sort " + sort + " for " + v, item, x.read(0, 0));
    }

    static void promise31Bytes() {
        long[][] rows = {{127, 127}, {128, -128}, {255, -1}, {256, 0}, {-128, -128}, {-129, 127}, {0x1FF, -1},
            {Long.MAX_VALUE, -1}, {Long.MIN_VALUE, 0}, {1L << 32 | 5, 5}};
        for (long[] row : rows) {
            dueItem(BYTES, row[0], row[1]);
        }
    }

    static void promise31Shorts() {
        long[][] rows = {{32767, 32767}, {32768, -32768}, {65535, -1}, {65536, 0}, {-32768, -32768}, {-32769, 32767},
            {Long.MAX_VALUE, -1}, {Long.MIN_VALUE, 0}, {1L << 32 | 5, 5}};
        for (long[] row : rows) {
            dueItem(SHORTS, row[0], row[1]);
        }
    }

    static void promise31Ints() {
        long[][] rows = {{MOST, MOST}, {MOST + 1L, LEAST}, {(1L << 32) - 1, -1}, {1L << 32, 0}, {LEAST, LEAST},
            {LEAST - 1L, MOST}, {Long.MAX_VALUE, -1}, {Long.MIN_VALUE, 0}};
        for (long[] row : rows) {
            dueItem(INTS, row[0], row[1]);
        }
    }

    static void promise31Longs() {
        for (long v : new long[] {0, -1, 1L << 32, Long.MAX_VALUE, Long.MIN_VALUE + 1}) {
            dueItem(LONGS, v, v);
        }
    }

    // the least long is an item like others, though it reads as NO
    static void promise31TheLeastLong() {
        FarVoice x = new FarVoice();
        x.tape(0, LONGS, 2);
        due("item(0, 0, least)", 1, x.item(0, 0, Long.MIN_VALUE));
        due("read(0, 0)", Long.MIN_VALUE, x.read(0, 0));
        x.shift(0, 0, 0, 1, 1);
        due("read(0, 1)", Long.MIN_VALUE, x.read(0, 1));
    }

    static void promise31Booleans() {
        long[][] rows = {{0, 0}, {1, 1}, {-1, 1}, {2, 1}, {256, 1}, {1L << 32, 1}, {Long.MIN_VALUE, 1}};
        for (long[] row : rows) {
            dueItem(BOOLEANS, row[0], row[1]);
        }
    }

    // "NONE; NOTHING; PLACE."
    static void promise31NoSuchTape() {
        for (int none : NO_SUCH_TAPE) {
            due("item(" + none + ", 0, 1)", -1, new FarVoice().item(none, 0, 1));
        }
    }

    static void promise31NothingThere() {
        FarVoice x = new FarVoice();
        due("item(0, 0, 1)", -11, x.item(0, 0, 1));
        due("item(0, -1, 1)", -11, x.item(0, -1, 1));
        due("item(5, 60, 1)", -11, x.item(5, 60, 1));
    }

    static void promise31NoSuchPlace() {
        FarVoice x = new FarVoice();
        x.tape(0, INTS, 3);
        for (int i : new int[] {-1, 3, 59, 60, LEAST, MOST}) {
            due("item(0, " + i + ", 7)", -13, x.item(0, i, 7));
        }
        for (int i = 0; i < 3; i++) {
            due("read(0, " + i + ")", 0, x.read(0, i));
        }
    }

    static void promise31TheOrderOfRefusals() {
        FarVoice x = new FarVoice();
        x.tape(0, INTS, 3);
        due("no such tape, no such place", -1, x.item(6, -1, 7));
        due("no such tape, no such place", -1, x.item(-1, 3, 7));
        due("nothing there, no such place", -11, x.item(1, 60, 7));
    }

    static void promise31TheFirstAndTheLastItem() {
        FarVoice x = new FarVoice();
        x.tape(0, INTS, 3);
        due("item(0, 0, 7)", 1, x.item(0, 0, 7));
        due("item(0, 2, 9)", 1, x.item(0, 2, 9));
        due("read(0, 0)", 7, x.read(0, 0));
        due("read(0, 1)", 0, x.read(0, 1));
        due("read(0, 2)", 9, x.read(0, 2));
    }

    // ---- promise 32: "NO: no such TAPE, nothing there, no such place."

    static void promise32NoSuchTape() {
        for (int none : NO_SUCH_TAPE) {
            due("read(" + none + ", 0)", FarVoice.NO, new FarVoice().read(none, 0));
        }
    }

    static void promise32NothingThere() {
        FarVoice x = new FarVoice();
        due("read(0, 0)", FarVoice.NO, x.read(0, 0));
        x.tape(0, INTS, 3);
        x.tape(0, -1, 3);
        due("read(0, 0)", FarVoice.NO, x.read(0, 0));
    }

    static void promise32NoSuchPlace() {
        FarVoice x = new FarVoice();
        x.tape(0, INTS, 3);
        for (int i : new int[] {-1, 3, 59, 60, LEAST, MOST}) {
            due("read(0, " + i + ")", FarVoice.NO, x.read(0, i));
        }
    }

    // ---- promise 33: "n items of a TAPE from i on come to another one (or the same) from j on"

    /** TAPES 0 and 1 are rows of bytes, 0 .. 5 and 10 .. 15; TAPE 2 is a row of ints, TAPE 3 a row of no bytes. */
    private static FarVoice rows() {
        FarVoice x = new FarVoice();
        x.tape(0, BYTES, 6);
        x.tape(1, BYTES, 6);
        x.tape(2, INTS, 6);
        x.tape(3, BYTES, 0);
        for (int i = 0; i < 6; i++) {
            x.item(0, i, i);
            x.item(1, i, 10 + i);
        }
        return x;
    }

    private static void dueRow(FarVoice x, int tape, int... items) {
        for (int i = 0; i < items.length; i++) {
            due("item " + i + " of tape " + tape, items[i], x.read(tape, i));
        }
    }

    private static void dueRefused(FarVoice x, int refusal, int tape, int i, int other, int j, int n) {
        String call = "shift(" + tape + ", " + i + ", " + other + ", " + j + ", " + n + ")";
        due(call, refusal, x.shift(tape, i, other, j, n));
        dueRow(x, 0, 0, 1, 2, 3, 4, 5);
        dueRow(x, 1, 10, 11, 12, 13, 14, 15);
    }

    static void promise33NoItems() {
        FarVoice x = rows();
        for (int i = 0; i <= 6; i++) {
            dueRefused(x, 0, 0, i, 1, 6 - i, 0);
        }
        dueRefused(x, 0, 3, 0, 0, 6, 0);
        dueRefused(x, 0, 3, 0, 3, 0, 0);
    }

    static void promise33AllItems() {
        FarVoice x = rows();
        due("shift(0, 0, 1, 0, 6)", 6, x.shift(0, 0, 1, 0, 6));
        dueRow(x, 0, 0, 1, 2, 3, 4, 5);
        dueRow(x, 1, 0, 1, 2, 3, 4, 5);
    }

    static void promise33SixtyItems() {
        FarVoice x = new FarVoice();
        x.tape(0, LONGS, 60);
        x.tape(5, LONGS, 60);
        for (int i = 0; i < 60; i++) {
            x.item(0, i, 1000 + i);
        }
        due("shift(0, 0, 5, 0, 60)", 60, x.shift(0, 0, 5, 0, 60));
        for (int i = 0; i < 60; i++) {
            due("read(5, " + i + ")", 1000 + i, x.read(5, i));
        }
        due("shift(0, 0, 5, 0, 61)", -13, x.shift(0, 0, 5, 0, 61));
    }

    static void promise33TheLastItemsToTheFirst() {
        FarVoice x = rows();
        due("shift(0, 5, 1, 0, 1)", 1, x.shift(0, 5, 1, 0, 1));
        dueRow(x, 1, 5, 11, 12, 13, 14, 15);
        due("shift(0, 0, 1, 5, 1)", 1, x.shift(0, 0, 1, 5, 1));
        dueRow(x, 1, 5, 11, 12, 13, 14, 0);
    }

    // "(or the same) .. as they all were before"
    static void promise33OnwardsInItself() {
        FarVoice x = rows();
        due("shift(0, 0, 0, 1, 5)", 5, x.shift(0, 0, 0, 1, 5));
        dueRow(x, 0, 0, 0, 1, 2, 3, 4);
    }

    static void promise33BackInItself() {
        FarVoice x = rows();
        due("shift(0, 1, 0, 0, 5)", 5, x.shift(0, 1, 0, 0, 5));
        dueRow(x, 0, 1, 2, 3, 4, 5, 5);
    }

    static void promise33ToItsOwnPlace() {
        FarVoice x = rows();
        due("shift(0, 1, 0, 1, 5)", 5, x.shift(0, 1, 0, 1, 5));
        dueRow(x, 0, 0, 1, 2, 3, 4, 5);
    }

    // "NONE: tapes"
    static void promise33NoSuchTapes() {
        for (int none : NO_SUCH_TAPE) {
            dueRefused(rows(), -1, none, 0, 1, 0, 1);
            dueRefused(rows(), -1, 0, 0, none, 0, 1);
            dueRefused(rows(), -1, none, 0, none, 0, 1);
        }
    }

    // "NOTHING"
    static void promise33NothingThere() {
        dueRefused(rows(), -11, 4, 0, 1, 0, 1);
        dueRefused(rows(), -11, 0, 0, 4, 0, 1);
        dueRefused(rows(), -11, 4, 0, 5, 0, 0);
        dueRefused(rows(), -11, 4, 0, 4, 0, 0);
    }

    // "CAST: of unlike sorts"
    static void promise33UnlikeSorts() {
        dueRefused(rows(), -12, 0, 0, 2, 0, 1);
        dueRefused(rows(), -12, 2, 0, 0, 0, 1);
        dueRefused(rows(), -12, 2, 0, 0, 0, 0);
        for (int a = 0; a < 5; a++) {
            for (int b = 0; b < 5; b++) {
                FarVoice x = new FarVoice();
                x.tape(0, a, 1);
                x.tape(1, b, 1);
                due("sorts " + a + " and " + b, a == b ? 1 : -12, x.shift(0, 0, 1, 0, 1));
            }
        }
    }

    // "PLACE: n, i or j is below 0"
    static void promise33Below0() {
        for (int low : new int[] {-1, LEAST}) {
            dueRefused(rows(), -13, 0, low, 1, 0, 1);
            dueRefused(rows(), -13, 0, 0, 1, low, 1);
            dueRefused(rows(), -13, 0, 0, 1, 0, low);
            dueRefused(rows(), -13, 0, low, 1, 0, 0);
            dueRefused(rows(), -13, 0, 0, 1, low, 0);
            dueRefused(rows(), -13, 0, 6, 1, 6, low);
            dueRefused(rows(), -13, 0, 0, 0, low, 1);
        }
    }

    // ", or beyond either's end"
    static void promise33BeyondTheEndOfTheFirst() {
        dueRefused(rows(), -13, 0, 0, 1, 0, 7);
        dueRefused(rows(), -13, 0, 1, 1, 0, 6);
        dueRefused(rows(), -13, 0, 6, 1, 0, 1);
        dueRefused(rows(), -13, 0, 7, 1, 0, 0);
        dueRefused(rows(), -13, 3, 0, 1, 0, 1);
        dueRefused(rows(), -13, 3, 1, 1, 0, 0);
    }

    static void promise33BeyondTheEndOfTheOther() {
        dueRefused(rows(), -13, 0, 0, 1, 1, 6);
        dueRefused(rows(), -13, 0, 0, 1, 6, 1);
        dueRefused(rows(), -13, 0, 0, 1, 7, 0);
        dueRefused(rows(), -13, 0, 0, 3, 0, 1);
        dueRefused(rows(), -13, 0, 0, 3, 1, 0);
        dueRefused(rows(), -13, 0, 0, 0, 1, 6);
    }

    static void promise33BeyondByWrapping() {
        dueRefused(rows(), -13, 0, MOST, 1, 0, MOST);
        dueRefused(rows(), -13, 0, 0, 1, MOST, MOST);
        dueRefused(rows(), -13, 0, 1, 1, 1, MOST);
        dueRefused(rows(), -13, 0, MOST, 1, MOST, 1);
        dueRefused(rows(), -13, 0, LEAST, 1, LEAST, LEAST);
    }

    static void promise33TheOrderOfRefusals() {
        dueRefused(rows(), -1, 6, -1, 4, 0, 1);
        dueRefused(rows(), -1, 4, -1, 6, 0, 1);
        dueRefused(rows(), -11, 4, -1, 2, 0, 1);
        dueRefused(rows(), -11, 2, 0, 4, -1, -1);
        dueRefused(rows(), -12, 0, -1, 2, 0, 1);
        dueRefused(rows(), -12, 0, 0, 2, 0, 7);
    }
}
