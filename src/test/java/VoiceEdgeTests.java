/**
 * Edges of VOICES: promises 10 to 12. Above each test stands the sentence of the document that names
 * its edge.
 */
final class VoiceEdgeTests {
    private static final int LEAST = Integer.MIN_VALUE, MOST = Integer.MAX_VALUE;
    private static final int EAR = 0, EYE = 1, SOUNDS = 2, JOINED = 3, HELD = 4, CAUGHT = 5;
    private static final int VOICE = 0, NEAR = 1, BOXED = 2, FAR = 3, DOUBLED = 4, SWAPPED = 5, DUBBED = 6;

    private VoiceEdgeTests() {
    }

    private static void due(String call, long want, long got) {
        Check.due(call, want, got);
    }

    /** One SEAT, one VOICE, twenty LETTERS; THE MOUTH and THE JAW there, THE JAW moving in those TENTHS. */
    private static FarVoice speaking(int kind, int v, int mouth, int jaw, long tenths) {
        FarVoice x = Stages.one(kind, v);
        Stages.sayTimes(x, 3, 20);
        x.mouth(mouth);
        x.jaw(jaw, tenths);
        return x;
    }

    private static void dueSounds(int kind, int v, int mouth, int jaw, int place) {
        FarVoice x = speaking(kind, v, mouth, jaw, 0);
        due("SOUNDS, kind " + kind + " v " + v + " mouth " + mouth + " jaw " + jaw, place, x.held(0, 0, 0, SOUNDS));
    }

    // ---- promise 10: "VOICES, numbered 0 .. 9, as they come, of KINDS: 0 .. 6; with a number v (0 .. 9)"

    static void promise10TheFirstAndTheLastKind() {
        FarVoice x = new FarVoice();
        due("voice(0, 1)", 0, x.voice(0, 1));
        due("voice(6, 1)", 1, x.voice(6, 1));
        due("taken(0, 0)", 0, x.taken(0, 0));
        due("taken(1, 6)", 6, x.taken(1, 6));
    }

    static void promise10KindTooLow() {
        FarVoice x = new FarVoice();
        due("voice(-1, 1)", -1, x.voice(-1, 1));
        due("voice(least, 1)", -1, x.voice(LEAST, 1));
        due("count(3)", 0, x.count(3));
    }

    static void promise10KindTooHigh() {
        FarVoice x = new FarVoice();
        due("voice(7, 1)", -1, x.voice(7, 1));
        due("voice(most, 1)", -1, x.voice(MOST, 1));
        due("count(3)", 0, x.count(3));
    }

    static void promise10TheLeastAndTheMostV() {
        FarVoice x = new FarVoice();
        x.seat(5, 20);
        due("voice(2, 0)", 0, x.voice(BOXED, 0));
        due("voice(2, 9)", 1, x.voice(BOXED, 9));
        due("EAR with v 0", 1, x.held(0, 0, 0, EAR));
        due("EAR with v 9", 10, x.held(1, 0, 0, EAR));
    }

    static void promise10VTooLow() {
        FarVoice x = new FarVoice();
        due("voice(1, -1)", -2, x.voice(1, -1));
        due("voice(1, least)", -2, x.voice(1, LEAST));
        due("count(3)", 0, x.count(3));
    }

    static void promise10VTooHigh() {
        FarVoice x = new FarVoice();
        due("voice(1, 10)", -2, x.voice(1, 10));
        due("voice(1, most)", -2, x.voice(1, MOST));
        due("count(3)", 0, x.count(3));
    }

    // "FULL: 10"
    static void promise10Full() {
        FarVoice x = new FarVoice();
        for (int n = 0; n < 10; n++) {
            due("voice " + n, n, x.voice(n % 7, 9 - n));
        }
        due("an eleventh", -4, x.voice(3, 3));
        due("count(3)", 10, x.count(3));
        due("taken(10, 0)", -11, x.taken(10, 0));
        for (int n = 0; n < 10; n++) {
            due("KIND of " + n, n % 7, x.taken(n, 0));
        }
    }

    static void promise10TheOrderOfRefusals() {
        FarVoice x = new FarVoice();
        due("voice(7, 10)", -1, x.voice(7, 10));
        due("voice(-1, -1)", -1, x.voice(-1, -1));
        for (int n = 0; n < 10; n++) {
            x.voice(0, 0);
        }
        due("voice(7, 0), full", -1, x.voice(7, 0));
        due("voice(0, 10), full", -2, x.voice(0, 10));
    }

    // ---- "EAR, EYE: 1, and the n of all such whose E holds, together"

    static void promise11EarAndEyeWithoutClauses() {
        FarVoice x = Stages.one(VOICE, 9);
        due("EAR", 1, x.held(0, 0, 0, EAR));
        due("EYE", 1, x.held(0, 0, 0, EYE));
    }

    static void promise11NoneOfTheClausesHolds() {
        FarVoice x = Stages.one(VOICE, 0);
        Stages.house(x, "ear 50 f>5;eye 50 f<5");
        due("EAR", 1, x.held(0, 0, 0, EAR));
        due("EYE", 1, x.held(0, 0, 0, EYE));
    }

    static void promise11NZeroAddsNothing() {
        FarVoice x = Stages.one(VOICE, 0);
        Stages.house(x, "ear 0 f=5;eye 00 f=5");
        due("EAR", 1, x.held(0, 0, 0, EAR));
        due("EYE", 1, x.held(0, 0, 0, EYE));
    }

    static void promise11AllOfTenHold() {
        FarVoice x = Stages.one(VOICE, 0);
        Stages.house(x, Stages.repeat("ear 2 f=5", 10, ";"));
        due("EAR", 21, x.held(0, 0, 0, EAR));
        Stages.house(x, Stages.repeat("eye 3 f=5", 10, ";"));
        due("EYE", 31, x.held(0, 0, 0, EYE));
        due("EAR", 1, x.held(0, 0, 0, EAR));
    }

    // "60 at most"
    static void promise11SixtyAtMost() {
        int[] ns = {57, 58, 59, 60, 98, 99};
        for (int n : ns) {
            FarVoice x = Stages.one(VOICE, 0);
            Stages.house(x, "ear " + n + " f=5");
            due("EAR by " + n, n < 59 ? n + 1 : 60, x.held(0, 0, 0, EAR));
            due("EYE", 1, x.held(0, 0, 0, EYE));
            Stages.house(x, "eye " + n + " f=5");
            due("EYE by " + n, n < 59 ? n + 1 : 60, x.held(0, 0, 0, EYE));
            due("EAR", 1, x.held(0, 0, 0, EAR));
        }
    }

    static void promise11SixtyOfSeveralTogether() {
        FarVoice x = Stages.one(VOICE, 0);
        Stages.house(x, "ear 30 f=5;eye 30 f=5;ear 29 f=5;eye 30 f=5");
        due("EAR of 60", 60, x.held(0, 0, 0, EAR));
        due("EYE of 61", 60, x.held(0, 0, 0, EYE));
        Stages.house(x, Stages.repeat("ear 99 f=5", 9, ";"));
        due("EAR of 892", 60, x.held(0, 0, 0, EAR));
    }

    // "ahead of what KINDS add"
    static void promise11SixtyAheadOfKinds() {
        FarVoice x = Stages.one(VOICE, 0);
        int[] ears = {60, 60, 69, 120, 60, 69, 120};
        for (int kind = 0; kind < 7; kind++) {
            x.voice(kind, 9);
        }
        Stages.house(x, "ear 99 f=5;eye 99 f=5");
        for (int kind = 0; kind < 7; kind++) {
            due("EAR of kind " + kind, ears[kind], x.held(kind + 1, 0, 0, EAR));
            due("EYE of kind " + kind, 60, x.held(kind + 1, 0, 0, EYE));
        }
    }

    // "BOXED, SWAPPED: v more; FAR, DUBBED: twice what is told": no v
    static void promise11EarOfKindsWithV0() {
        int[] ears = {4, 4, 4, 8, 4, 4, 8};
        for (int kind = 0; kind < 7; kind++) {
            FarVoice x = Stages.one(kind, 0);
            Stages.house(x, "ear 3 f=5");
            due("EAR of kind " + kind, ears[kind], x.held(0, 0, 0, EAR));
        }
    }

    static void promise11EarOfKindsWithV9() {
        int[] ears = {4, 4, 13, 8, 4, 13, 8};
        for (int kind = 0; kind < 7; kind++) {
            FarVoice x = Stages.one(kind, 9);
            Stages.house(x, "ear 3 f=5");
            due("EAR of kind " + kind, ears[kind], x.held(0, 0, 0, EAR));
        }
    }

    // ---- TESTS: "a letter, < or = or >, a number"

    /** Whether the TEST holds is seen by EAR; each asks for one of the five HOUSES. */
    private static void dueHolds(FarVoice x, int tenth, String test, boolean holds) {
        due("house of " + test, x.count(2), Stages.house(x, "ear 6 " + test));
        due("EAR by " + test + " in tenth " + tenth, holds ? 7 : 1, x.held(0, 0, tenth, EAR));
    }

    static void promise11LessIsNotAsMuch() {
        dueHolds(Stages.one(VOICE, 0), 0, "f<5", false);
        dueHolds(Stages.one(VOICE, 0), 0, "f<6", true);
    }

    static void promise11AsMuchIsNotNear() {
        dueHolds(Stages.one(VOICE, 0), 0, "f=4", false);
        dueHolds(Stages.one(VOICE, 0), 0, "f=5", true);
        dueHolds(Stages.one(VOICE, 0), 0, "f=6", false);
    }

    static void promise11MoreIsNotAsMuch() {
        dueHolds(Stages.one(VOICE, 0), 0, "f>5", false);
        dueHolds(Stages.one(VOICE, 0), 0, "f>4", true);
    }

    // "f how FAR the SEAT is": 1 .. 40
    static void promise11FOfTheNearestAndTheFarthest() {
        FarVoice x = new FarVoice();
        x.voice(VOICE, 0);
        x.seat(1, 20);
        dueHolds(x, 0, "f=1", true);
        dueHolds(x, 0, "f<1", false);
        FarVoice y = new FarVoice();
        y.voice(VOICE, 0);
        y.seat(40, 20);
        dueHolds(y, 0, "f=40", true);
        dueHolds(y, 0, "f>40", false);
    }

    // "o how many PLACES its SIDE is off THE MOUTH": none, to either side, 40
    static void promise11OOnBothSides() {
        int[][] rows = {{20, 20, 0}, {20, 19, 1}, {20, 21, 1}, {0, 40, 40}, {40, 0, 40}, {7, 0, 7}, {33, 40, 7}};
        for (int[] row : rows) {
            FarVoice x = new FarVoice();
            x.voice(VOICE, 0);
            x.seat(5, row[1]);
            x.mouth(row[0]);
            dueHolds(x, 0, "o=" + row[2], true);
        }
    }

    // "k the KIND of the VOICE"
    static void promise11KOfEveryKind() {
        for (int kind = 0; kind < 7; kind++) {
            for (int asked = 0; asked < 8; asked++) {
                FarVoice x = Stages.one(VOICE, 0);
                x.voice(kind, 0);
                Stages.house(x, "eye 6 k=" + asked);
                due("EYE of kind " + kind + " by k=" + asked, kind == asked ? 7 : 1, x.held(1, 0, 0, EYE));
            }
        }
    }

    // "l the LETTER of WORDS in that TENTH (99: none)"
    static void promise11LWithoutWords() {
        dueHolds(Stages.one(VOICE, 0), 0, "l=99", true);
        dueHolds(Stages.one(VOICE, 0), 39, "l=99", true);
        dueHolds(Stages.one(VOICE, 0), 0, "l=0", false);
        dueHolds(Stages.one(VOICE, 0), 0, "l>98", true);
    }

    static void promise11LBehindWords() {
        FarVoice x = Stages.one(VOICE, 0);
        Stages.say(x, 4, 9);
        dueHolds(x, 3, "l=9", true);
        dueHolds(x, 3, "l=99", false);
        dueHolds(x, 4, "l=9", false);
        dueHolds(x, 4, "l=99", true);
    }

    static void promise11LOfWordsThatAreGone() {
        FarVoice x = Stages.one(VOICE, 0);
        Stages.say(x, 4, 9);
        x.say(-1);
        dueHolds(x, 0, "l=99", true);
        x.say(0);
        dueHolds(x, 0, "l=0", true);
        dueHolds(x, 2, "l=99", true);
    }

    // the LETTER of WORDS, not what is SAID
    static void promise11LIsNotWhatIsSaid() {
        FarVoice x = Stages.one(SWAPPED, 0);
        x.say(4);
        Stages.house(x, "swap 4 9;ear 6 l=4;eye 6 l=9");
        due("EAR", 7, x.held(0, 0, 0, EAR));
        due("EYE", 1, x.held(0, 0, 0, EYE));
    }

    // "t the TENTH": 0 .. 39
    static void promise11TOfTheFirstAndTheLastTenth() {
        dueHolds(Stages.one(VOICE, 0), 0, "t=0", true);
        dueHolds(Stages.one(VOICE, 0), 0, "t<1", true);
        dueHolds(Stages.one(VOICE, 0), 1, "t=0", false);
        dueHolds(Stages.one(VOICE, 0), 39, "t=39", true);
        dueHolds(Stages.one(VOICE, 0), 39, "t>39", false);
        dueHolds(Stages.one(VOICE, 0), 38, "t=39", false);
    }

    // DUBBED moves THE JAW later, not the TENTH that is asked for
    static void promise11TOfDubbed() {
        FarVoice x = Stages.one(DUBBED, 3);
        Stages.house(x, "eye 6 t=5");
        due("EYE in tenth 5", 7, x.held(0, 0, 5, EYE));
        due("EYE in tenth 2", 1, x.held(0, 0, 2, EYE));
        due("EYE in tenth 8", 1, x.held(0, 0, 8, EYE));
    }

    // ---- "VOICE, BOXED, SWAPPED: THE MOUTH"

    static void promise11SoundsAtTheMouth() {
        for (int kind : new int[] {VOICE, BOXED, SWAPPED}) {
            dueSounds(kind, 0, 20, 26, 20);
            dueSounds(kind, 9, 20, 26, 20);
            dueSounds(kind, 9, 0, 40, 0);
            dueSounds(kind, 9, 40, 0, 40);
        }
    }

    // "NEAR, DOUBLED: v PLACES from it toward THE JAW (no farther than that)"
    static void promise11SoundsNoFartherThanTheJaw() {
        for (int kind : new int[] {NEAR, DOUBLED}) {
            dueSounds(kind, 5, 20, 26, 25);
            dueSounds(kind, 6, 20, 26, 26);
            dueSounds(kind, 7, 20, 26, 26);
            dueSounds(kind, 5, 26, 20, 21);
            dueSounds(kind, 6, 26, 20, 20);
            dueSounds(kind, 7, 26, 20, 20);
        }
    }

    static void promise11SoundsNearWithV0() {
        for (int kind : new int[] {NEAR, DOUBLED}) {
            dueSounds(kind, 0, 20, 26, 20);
            dueSounds(kind, 0, 26, 20, 26);
        }
    }

    static void promise11SoundsNearWhereBothAreOne() {
        for (int kind : new int[] {NEAR, DOUBLED}) {
            for (int place : new int[] {0, 20, 40}) {
                dueSounds(kind, 9, place, place, place);
            }
        }
    }

    static void promise11SoundsNearAtTheEnds() {
        dueSounds(NEAR, 9, 2, 0, 0);
        dueSounds(NEAR, 9, 38, 40, 40);
        dueSounds(NEAR, 9, 0, 40, 9);
        dueSounds(NEAR, 9, 40, 0, 31);
    }

    // "FAR, DUBBED: v PLACES from it away from THE JAW"
    static void promise11SoundsAwayFromTheJaw() {
        for (int kind : new int[] {FAR, DUBBED}) {
            dueSounds(kind, 4, 20, 21, 16);
            dueSounds(kind, 4, 20, 40, 16);
            dueSounds(kind, 4, 20, 19, 24);
            dueSounds(kind, 4, 20, 0, 24);
            dueSounds(kind, 0, 20, 26, 20);
        }
    }

    // "(upward, if both are one ..)"
    static void promise11SoundsUpwardWhereBothAreOne() {
        for (int kind : new int[] {FAR, DUBBED}) {
            dueSounds(kind, 4, 20, 20, 24);
            dueSounds(kind, 4, 0, 0, 4);
            dueSounds(kind, 0, 20, 20, 20);
        }
    }

    // "(.. kept in 0 .. 40)"
    static void promise11SoundsNoLowerThan0() {
        for (int kind : new int[] {FAR, DUBBED}) {
            dueSounds(kind, 4, 5, 6, 1);
            dueSounds(kind, 5, 5, 6, 0);
            dueSounds(kind, 6, 5, 6, 0);
            dueSounds(kind, 9, 0, 1, 0);
        }
    }

    static void promise11SoundsNoHigherThan40() {
        for (int kind : new int[] {FAR, DUBBED}) {
            dueSounds(kind, 4, 35, 34, 39);
            dueSounds(kind, 5, 35, 34, 40);
            dueSounds(kind, 6, 35, 34, 40);
            dueSounds(kind, 9, 40, 39, 40);
            dueSounds(kind, 9, 40, 40, 40);
        }
    }

    // where it SOUNDS is not where it is HELD to be
    static void promise11SoundsWhereItDoesThoughJoined() {
        FarVoice x = speaking(VOICE, 0, 20, 22, 1);
        due("JOINED", 1, x.held(0, 0, 0, JOINED));
        due("SOUNDS", 20, x.held(0, 0, 0, SOUNDS));
        due("HELD", 21, x.held(0, 0, 0, HELD));
    }

    // ---- "JOINED by a SEAT in a TENTH, if a LETTER is said"

    private static void dueJoined(FarVoice x, String tenths) {
        for (int t = 0; t < tenths.length(); t++) {
            due("JOINED in tenth " + t, tenths.charAt(t) - '0', x.held(0, 0, t, JOINED));
        }
    }

    static void promise11NotJoinedWithoutWords() {
        FarVoice x = Stages.one(VOICE, 0);
        x.jaw(20, Stages.ALL);
        for (int t = 0; t < 40; t++) {
            due("JOINED in tenth " + t, 0, x.held(0, 0, t, JOINED));
        }
    }

    static void promise11NotJoinedBehindWords() {
        FarVoice x = Stages.one(VOICE, 0);
        x.jaw(20, Stages.ALL);
        x.say(3);
        dueJoined(x, "1100");
        x.say(3);
        dueJoined(x, "111100");
    }

    static void promise11JoinedInAllTenthsOfTwentyLetters() {
        dueJoined(speaking(VOICE, 0, 20, 20, Stages.ALL), Stages.repeat("1", 40, ""));
    }

    // "THE JAW moves in some TENTH"
    static void promise11NotJoinedIfItNeverMoves() {
        dueJoined(speaking(VOICE, 0, 20, 20, 0), Stages.repeat("0", 40, ""));
    }

    // "no more than late ahead or behind"
    static void promise11JoinedWithin1Without() {
        dueJoined(speaking(VOICE, 0, 20, 20, 1L << 5), "000011100000");
    }

    static void promise11JoinedWithinLate0() {
        FarVoice x = speaking(VOICE, 0, 20, 20, 1L << 5);
        Stages.house(x, "late 0");
        dueJoined(x, "000001000000");
    }

    static void promise11JoinedWithinLate4() {
        FarVoice x = speaking(VOICE, 0, 20, 20, 1L << 5);
        Stages.house(x, "late 4");
        dueJoined(x, "011111111100");
    }

    static void promise11JoinedWithinLate39() {
        FarVoice x = speaking(VOICE, 0, 20, 20, 1L << 39);
        Stages.house(x, "late 38");
        due("JOINED in tenth 0", 0, x.held(0, 0, 0, JOINED));
        due("JOINED in tenth 1", 1, x.held(0, 0, 1, JOINED));
        Stages.house(x, "late 39");
        due("JOINED in tenth 0", 1, x.held(0, 0, 0, JOINED));
        x.jaw(20, 1);
        due("JOINED in tenth 39", 1, x.held(0, 0, 39, JOINED));
        Stages.house(x, "late 38");
        due("JOINED in tenth 39", 0, x.held(0, 0, 39, JOINED));
        due("JOINED in tenth 38", 1, x.held(0, 0, 38, JOINED));
    }

    static void promise11JoinedWithinLate99() {
        FarVoice x = speaking(VOICE, 0, 20, 20, 1L << 39);
        Stages.house(x, "late 99");
        dueJoined(x, Stages.repeat("1", 40, ""));
    }

    // the row of TENTHS has ends: what is behind 39 is not 0
    static void promise11LateDoesNotGoRound() {
        dueJoined(speaking(VOICE, 0, 20, 20, 1L << 39), Stages.repeat("0", 38, "") + "11");
        dueJoined(speaking(VOICE, 0, 20, 20, 1), "11" + Stages.repeat("0", 38, ""));
    }

    // "it is no more PLACES from where it SOUNDS than EAR and EYE together"
    static void promise11JoinedByAsManyPlaces() {
        FarVoice x = speaking(VOICE, 0, 20, 20, Stages.ALL);
        Stages.house(x, "ear 3 f=5;eye 4 f=5");
        int[][] rows = {{20, 1}, {28, 1}, {29, 1}, {30, 0}, {12, 1}, {11, 1}, {10, 0}};
        for (int[] row : rows) {
            x.jaw(row[0], Stages.ALL);
            due("JOINED with THE JAW at " + row[0], row[1], x.held(0, 0, 0, JOINED));
        }
    }

    static void promise11JoinedFromEndToEnd() {
        FarVoice x = speaking(VOICE, 0, 0, 40, Stages.ALL);
        Stages.house(x, "ear 19 f=5;eye 19 f=5");
        due("JOINED by 40", 1, x.held(0, 0, 0, JOINED));
        Stages.house(x, "ear 18 f=5;eye 19 f=5");
        due("JOINED by 39", 0, x.held(0, 0, 0, JOINED));
    }

    // with EAR as it is for the VOICE
    static void promise11JoinedByTheEarOfItsKind() {
        // BOXED 5: EAR 6, EYE 1
        due("BOXED by 7", 1, speaking(BOXED, 5, 20, 27, 1).held(0, 0, 0, JOINED));
        due("BOXED by 8", 0, speaking(BOXED, 5, 20, 28, 1).held(0, 0, 0, JOINED));
        // FAR 1: EAR 2, EYE 1, SOUNDS one off
        due("FAR by 3", 1, speaking(FAR, 1, 20, 22, 1).held(0, 0, 0, JOINED));
        due("FAR by 4", 0, speaking(FAR, 1, 20, 23, 1).held(0, 0, 0, JOINED));
        // NEAR 5: it SOUNDS five on, EAR and EYE 1
        due("NEAR by 2", 1, speaking(NEAR, 5, 20, 27, 1).held(0, 0, 0, JOINED));
        due("NEAR by 3", 0, speaking(NEAR, 5, 20, 28, 1).held(0, 0, 0, JOINED));
    }

    // "DUBBED: v TENTHS later (what is beyond TENTH 39 is lost)"
    static void promise11DubbedV0() {
        dueJoined(speaking(DUBBED, 0, 20, 20, 1L << 5), "00001110");
    }

    static void promise11DubbedV9() {
        dueJoined(speaking(DUBBED, 9, 40, 40, 1), "00000000111000");
    }

    private static void dueLateDubbed(long tenths, String joined) {
        FarVoice x = speaking(DUBBED, 2, 20, 20, tenths);
        Stages.house(x, "late 0");
        dueJoined(x, joined);
    }

    static void promise11DubbedToTheLastTenth() {
        dueLateDubbed(1L << 37, Stages.repeat("0", 39, "") + "1");
    }

    static void promise11DubbedBeyondTheLastTenth() {
        dueLateDubbed(1L << 38, Stages.repeat("0", 40, ""));
        dueLateDubbed(1L << 39, Stages.repeat("0", 40, ""));
    }

    static void promise11DubbedOfAllTenths() {
        dueLateDubbed(Stages.ALL, "00" + Stages.repeat("1", 38, ""));
    }

    // what is lost beyond 39 is not near 39 either, late as it may be
    static void promise11DubbedWhatIsLostIsNotNear() {
        FarVoice x = speaking(DUBBED, 2, 20, 20, 1L << 38);
        Stages.house(x, "late 9");
        due("JOINED in tenth 39", 0, x.held(0, 0, 39, JOINED));
    }

    // "DOUBLED: not in TENTHS that are a multiple of v (v 0: as NEAR)"
    static void promise11DoubledV0() {
        dueJoined(speaking(DOUBLED, 0, 20, 20, Stages.ALL), Stages.repeat("1", 40, ""));
    }

    static void promise11DoubledV1() {
        dueJoined(speaking(DOUBLED, 1, 20, 20, Stages.ALL), Stages.repeat("0", 40, ""));
    }

    static void promise11DoubledV2() {
        dueJoined(speaking(DOUBLED, 2, 20, 20, Stages.ALL), Stages.repeat("01", 20, ""));
    }

    static void promise11DoubledV9() {
        dueJoined(speaking(DOUBLED, 9, 20, 20, Stages.ALL), "0111111110111111110111111110111111110111");
    }

    // 0 is a multiple of every v
    static void promise11DoubledTenth0() {
        for (int v = 1; v < 10; v++) {
            due("v " + v, 0, speaking(DOUBLED, v, 20, 20, Stages.ALL).held(0, 0, 0, JOINED));
        }
    }

    static void promise11NearHasNoSuchTenths() {
        dueJoined(speaking(NEAR, 2, 20, 20, Stages.ALL), Stages.repeat("1", 40, ""));
    }

    // ---- "HELD: .. by (EAR and EYE) (cut); else where it SOUNDS"

    private static void dueHeld(String house, int mouth, int jaw, int place) {
        FarVoice x = speaking(VOICE, 0, mouth, jaw, Stages.ALL);
        Stages.house(x, house);
        due("JOINED", 1, x.held(0, 0, 0, JOINED));
        due("HELD by " + house + " mouth " + mouth + " jaw " + jaw, place, x.held(0, 0, 0, HELD));
    }

    static void promise11HeldInTheMiddleIsCut() {
        dueHeld("late 1", 20, 21, 20);
        dueHeld("late 1", 21, 20, 20);
        dueHeld("late 1", 0, 1, 0);
        dueHeld("late 1", 40, 39, 39);
    }

    static void promise11HeldThatIsWholeIsNotCut() {
        dueHeld("late 1", 20, 22, 21);
        dueHeld("late 1", 2, 0, 1);
        dueHeld("late 1", 20, 20, 20);
        dueHeld("late 1", 0, 0, 0);
        dueHeld("late 1", 40, 40, 40);
    }

    static void promise11HeldJustBelowAPlaceIsCut() {
        // (20 * 1 + 26 * 8) / 9 = 25.3; (20 * 1 + 26 * 5) / 6 = 25; (20 * 1 + 25 * 59) / 60 = 24.9
        dueHeld("ear 7 f=5", 20, 26, 25);
        dueHeld("ear 4 f=5", 20, 26, 25);
        dueHeld("ear 58 f=5", 20, 25, 24);
    }

    static void promise11HeldByTheMostUnsure() {
        // (0 * 60 + 40 * 60) / 120
        dueHeld("ear 99 f=5;eye 99 f=5", 0, 40, 20);
        // (0 * 1 + 40 * 60) / 61 = 39.3; (0 * 60 + 40 * 1) / 61 = 0.7
        dueHeld("ear 99 f=5", 0, 40, 39);
        dueHeld("eye 99 f=5", 0, 40, 0);
    }

    static void promise11HeldIfNotJoined() {
        FarVoice x = speaking(FAR, 4, 20, 26, Stages.ALL);
        due("JOINED", 0, x.held(0, 0, 0, JOINED));
        due("HELD where it SOUNDS, not at THE MOUTH", 16, x.held(0, 0, 0, HELD));
    }

    static void promise11HeldByTheEarOfItsKind() {
        // EAR 1 + 9: (20 * 1 + 25 * 10) / 11 = 24.5; EAR 2 * 2: (19 * 1 + 22 * 4) / 5 = 21.4
        due("BOXED", 24, speaking(BOXED, 9, 20, 25, 1).held(0, 0, 0, HELD));
        FarVoice x = speaking(FAR, 1, 20, 22, 1);
        Stages.house(x, "ear 1 f=5");
        due("FAR", 21, x.held(0, 0, 0, HELD));
    }

    // ---- "CAUGHT: HELD is nearer to THE JAW than to THE MOUTH"

    static void promise11CaughtNotIfAsNear() {
        // HELD is 23, three off either
        FarVoice x = speaking(NEAR, 3, 20, 26, 0);
        due("HELD", 23, x.held(0, 0, 0, HELD));
        due("CAUGHT", 0, x.held(0, 0, 0, CAUGHT));
        FarVoice y = speaking(VOICE, 0, 20, 22, 1);
        due("HELD, JOINED", 21, y.held(0, 0, 0, HELD));
        due("CAUGHT, JOINED", 0, y.held(0, 0, 0, CAUGHT));
    }

    static void promise11CaughtIfOneNearer() {
        FarVoice x = speaking(NEAR, 3, 20, 25, 0);
        due("two off and three off", 1, x.held(0, 0, 0, CAUGHT));
        FarVoice y = speaking(NEAR, 2, 20, 25, 0);
        due("three off and two off", 0, y.held(0, 0, 0, CAUGHT));
        FarVoice z = speaking(NEAR, 3, 25, 20, 0);
        due("the other way round", 1, z.held(0, 0, 0, CAUGHT));
    }

    static void promise11CaughtNotWhereBothAreOne() {
        due("CAUGHT", 0, speaking(VOICE, 0, 20, 20, 1).held(0, 0, 0, CAUGHT));
        due("CAUGHT, FAR", 0, speaking(FAR, 9, 20, 20, 1).held(0, 0, 0, CAUGHT));
    }

    static void promise11CaughtThoughNotJoined() {
        FarVoice x = Stages.one(NEAR, 9);
        due("JOINED, nothing said", 0, x.held(0, 0, 0, JOINED));
        due("CAUGHT, nothing said", 1, x.held(0, 0, 0, CAUGHT));
    }

    // ---- promise 11: "NONE."

    static void promise11NoSuchVoice() {
        FarVoice x = Stages.one(VOICE, 0);
        for (int what = 0; what < 6; what++) {
            due("held(-1, 0, 0, " + what + ")", -1, x.held(-1, 0, 0, what));
            due("held(1, 0, 0, " + what + ")", -1, x.held(1, 0, 0, what));
            due("held(least, 0, 0, " + what + ")", -1, x.held(LEAST, 0, 0, what));
            due("held(most, 0, 0, " + what + ")", -1, x.held(MOST, 0, 0, what));
        }
    }

    static void promise11NoSuchSeat() {
        FarVoice x = Stages.one(VOICE, 0);
        for (int what = 0; what < 6; what++) {
            due("held(0, -1, 0, " + what + ")", -1, x.held(0, -1, 0, what));
            due("held(0, 1, 0, " + what + ")", -1, x.held(0, 1, 0, what));
            due("held(0, least, 0, " + what + ")", -1, x.held(0, LEAST, 0, what));
            due("held(0, most, 0, " + what + ")", -1, x.held(0, MOST, 0, what));
        }
    }

    static void promise11NoSuchTenth() {
        FarVoice x = Stages.one(VOICE, 0);
        for (int what = 0; what < 6; what++) {
            due("held(0, 0, -1, " + what + ")", -1, x.held(0, 0, -1, what));
            due("held(0, 0, 40, " + what + ")", -1, x.held(0, 0, 40, what));
            due("held(0, 0, least, " + what + ")", -1, x.held(0, 0, LEAST, what));
            due("held(0, 0, most, " + what + ")", -1, x.held(0, 0, MOST, what));
        }
    }

    static void promise11NoSuchWhat() {
        FarVoice x = Stages.one(VOICE, 0);
        due("held(0, 0, 0, -1)", -1, x.held(0, 0, 0, -1));
        due("held(0, 0, 0, 6)", -1, x.held(0, 0, 0, 6));
        due("held(0, 0, 0, least)", -1, x.held(0, 0, 0, LEAST));
        due("held(0, 0, 0, most)", -1, x.held(0, 0, 0, MOST));
    }

    static void promise11TheFirstAndTheLastTenth() {
        FarVoice x = Stages.one(VOICE, 0);
        due("held(0, 0, 0, 2)", 20, x.held(0, 0, 0, SOUNDS));
        due("held(0, 0, 39, 2)", 20, x.held(0, 0, 39, SOUNDS));
    }

    static void promise11TheLastVoiceAndSeat() {
        FarVoice x = new FarVoice();
        for (int n = 0; n < 10; n++) {
            x.voice(NEAR, n);
        }
        for (int s = 0; s < 8; s++) {
            x.seat(s + 1, 20);
        }
        Stages.house(x, "ear 9 f=8;ear 4 f=1");
        due("the last voice SOUNDS", 26, x.held(9, 0, 0, SOUNDS));
        due("the first voice SOUNDS", 20, x.held(0, 7, 0, SOUNDS));
        due("EAR of the last seat", 10, x.held(9, 7, 0, EAR));
        due("EAR of the first seat", 5, x.held(9, 0, 0, EAR));
    }

    // "Of a VOICE by a SEAT in a TENTH": each of these numbers counts for itself
    static void promise11OfThatVoiceSeatAndTenth() {
        FarVoice x = Stages.three();
        int[][] ears = {{1, 5, 1}, {10, 14, 10}, {2, 10, 2}};
        int[][] held = {{20, 25, 20}, {25, 25, 23}, {11, 11, 11}};
        int[] eyes = {1, 1, 10};
        int[] sounds = {20, 20, 11};
        for (int v = 0; v < 3; v++) {
            for (int s = 0; s < 3; s++) {
                due("EAR of " + v + " by " + s, ears[v][s], x.held(v, s, 2, EAR));
                due("EYE of " + v + " by " + s, eyes[s], x.held(v, s, 2, EYE));
                due("SOUNDS of " + v + " by " + s, sounds[v], x.held(v, s, 2, SOUNDS));
                due("JOINED of " + v + " by " + s, v == 1 || v == 0 && s > 0 ? 1 : 0, x.held(v, s, 2, JOINED));
                due("HELD of " + v + " by " + s, held[v][s], x.held(v, s, 2, HELD));
                due("CAUGHT of " + v + " by " + s, held[v][s] > 23 ? 1 : 0, x.held(v, s, 2, CAUGHT));
                due("JOINED of " + v + " by " + s + ", nothing said", 0, x.held(v, s, 4, JOINED));
            }
        }
    }

    static void promise12OfThatVoiceSeatAndLetter() {
        FarVoice x = Stages.three();
        x.say(7);
        for (int v = 0; v < 3; v++) {
            for (int s = 0; s < 3; s++) {
                boolean right = v == 2 && s == 2;
                due("HEARD of " + v + " by " + s, right ? 3 : 4, x.heard(v, s, 1, 1));
                due("RIGHT of " + v + " by " + s, right ? 1 : 0, x.heard(v, s, 1, 2));
                due("the third letter of " + v + " by " + s, 7, x.heard(v, s, 2, 1));
            }
        }
    }

    // ---- promise 12: "JOINED in the LETTER's first TENTH"

    private static final String LIPS = "late 0;hears 0 0 3;hears 0 1 4;hears 2 0 5;hears 2 1 6;hears 3 0 7;hears 3 1 8";

    /** A SEAT that far; those LETTERS; the HOUSE of LIPS; THE JAW moves there, in those TENTHS. */
    private static FarVoice lips(int kind, int far, long tenths, int... letters) {
        FarVoice x = new FarVoice();
        x.seat(far, 20);
        x.voice(kind, 0);
        Stages.house(x, LIPS);
        Stages.say(x, letters);
        x.jaw(20, tenths);
        return x;
    }

    static void promise12JoinedInItsFirstTenthAlone() {
        FarVoice x = lips(VOICE, 30, 0b000101, 3, 3, 3);
        due("letter 0", 7, x.heard(0, 0, 0, 1));
        due("letter 1", 7, x.heard(0, 0, 1, 1));
        due("letter 2", 3, x.heard(0, 0, 2, 1));
    }

    static void promise12JoinedInItsSecondTenthAlone() {
        FarVoice x = lips(VOICE, 30, 0b101010, 3, 3, 3);
        for (int i = 0; i < 3; i++) {
            due("letter " + i, 3, x.heard(0, 0, i, 1));
        }
    }

    static void promise12TheTwentiethLetter() {
        FarVoice x = lips(VOICE, 30, 1L << 38);
        Stages.sayTimes(x, 3, 20);
        due("JOINED in tenth 38", 7, x.heard(0, 0, 19, 1));
        x.jaw(20, 1L << 39);
        due("JOINED in tenth 39 alone", 3, x.heard(0, 0, 19, 1));
    }

    // "by HEARS with what is SAID, lips open"
    static void promise12JoinedLipsAreOpen() {
        FarVoice x = lips(VOICE, 5, Stages.ALL, 0, 2, 3);
        int[] heard = {3, 5, 7};
        for (int i = 0; i < 3; i++) {
            due("letter " + i, heard[i], x.heard(0, 0, i, 1));
        }
    }

    // "else, if the SEAT is no farther than 20: by HEARS, lips as that is said with; farther: what is SAID"
    static void promise12NoFartherThan20() {
        for (int far : new int[] {1, 19, 20}) {
            FarVoice x = lips(VOICE, far, 0, 0, 2, 3);
            int[] heard = {4, 6, 7};
            for (int i = 0; i < 3; i++) {
                due("letter " + i + " from " + far, heard[i], x.heard(0, 0, i, 1));
            }
        }
    }

    static void promise12FartherThan20() {
        for (int far : new int[] {21, 22, 40}) {
            FarVoice x = lips(VOICE, far, 0, 0, 2, 3);
            int[] heard = {0, 2, 3};
            for (int i = 0; i < 3; i++) {
                due("letter " + i + " from " + far, heard[i], x.heard(0, 0, i, 1));
            }
        }
    }

    static void promise12JoinedFromFartherThan20() {
        FarVoice x = lips(VOICE, 40, Stages.ALL, 0, 2, 3);
        int[] heard = {3, 5, 7};
        for (int i = 0; i < 3; i++) {
            due("letter " + i, heard[i], x.heard(0, 0, i, 1));
        }
    }

    // "A LETTER 0, 1, 2 (b, p, m) is said with lips shut."
    static void promise12LipsOfEveryLetter() {
        for (int letter = 0; letter < 10; letter++) {
            FarVoice x = Stages.one(VOICE, 0);
            int open = (letter + 1) % 10;
            int shut = (letter + 2) % 10;
            Stages.house(x, "hears " + letter + " 0 " + open + ";hears " + letter + " 1 " + shut);
            x.say(letter);
            due("HEARD for " + letter, letter < 3 ? shut : open, x.heard(0, 0, 0, 1));
        }
    }

    // "lips as that is said with": as what is SAID, not as the LETTER of WORDS
    static void promise12LipsOfWhatIsSaid() {
        FarVoice x = lips(SWAPPED, 5, 0, 9, 8);
        Stages.house(x, LIPS + ";swap 9 0;swap 8 3");
        due("SAID", 0, x.heard(0, 0, 0, 0));
        due("HEARD", 4, x.heard(0, 0, 0, 1));
        due("SAID", 3, x.heard(0, 0, 1, 0));
        due("HEARD", 7, x.heard(0, 0, 1, 1));
    }

    // "SAID: the LETTER of WORDS; SWAPPED: by SWAP"
    static void promise12OnlySwappedIsSwapped() {
        for (int kind = 0; kind < 7; kind++) {
            FarVoice x = lips(kind, 30, 0, 9);
            Stages.house(x, "swap 9 4");
            due("SAID by kind " + kind, kind == SWAPPED ? 4 : 9, x.heard(0, 0, 0, 0));
            due("HEARD of kind " + kind, kind == SWAPPED ? 4 : 9, x.heard(0, 0, 0, 1));
            due("RIGHT of kind " + kind, kind == SWAPPED ? 0 : 1, x.heard(0, 0, 0, 2));
        }
    }

    static void promise12SwappedWithoutSwap() {
        FarVoice x = lips(SWAPPED, 30, 0, 9);
        due("SAID", 9, x.heard(0, 0, 0, 0));
        due("RIGHT", 1, x.heard(0, 0, 0, 2));
    }

    // a LETTER that is said instead is not swapped once more
    static void promise12SwappedOnce() {
        FarVoice x = lips(SWAPPED, 30, 0, 9, 4);
        Stages.house(x, "swap 9 4;swap 4 9");
        due("SAID for 9", 4, x.heard(0, 0, 0, 0));
        due("SAID for 4", 9, x.heard(0, 0, 1, 0));
    }

    // what is HEARD is not heard once more
    static void promise12HeardOnce() {
        FarVoice x = lips(VOICE, 5, 0, 7, 8);
        Stages.house(x, "hears 7 0 8;hears 8 0 7");
        due("HEARD for 7", 8, x.heard(0, 0, 0, 1));
        due("HEARD for 8", 7, x.heard(0, 0, 1, 1));
    }

    // "RIGHT: HEARD is the LETTER of WORDS"
    static void promise12RightByTwoWrongs() {
        FarVoice x = lips(SWAPPED, 5, 0, 7);
        Stages.house(x, "swap 7 8;hears 8 0 7");
        due("HEARD", 7, x.heard(0, 0, 0, 1));
        due("RIGHT", 1, x.heard(0, 0, 0, 2));
        Stages.house(x, "swap 7 8;hears 7 0 8");
        due("HEARD as it is SAID", 8, x.heard(0, 0, 0, 1));
        due("not RIGHT", 0, x.heard(0, 0, 0, 2));
    }

    // "NONE."
    static void promise12NoSuchLetter() {
        FarVoice x = lips(VOICE, 5, 0, 3, 4);
        for (int what = 0; what < 3; what++) {
            due("heard(0, 0, -1, " + what + ")", -1, x.heard(0, 0, -1, what));
            due("heard(0, 0, 2, " + what + ")", -1, x.heard(0, 0, 2, what));
            due("heard(0, 0, 19, " + what + ")", -1, x.heard(0, 0, 19, what));
            due("heard(0, 0, least, " + what + ")", -1, x.heard(0, 0, LEAST, what));
            due("heard(0, 0, most, " + what + ")", -1, x.heard(0, 0, MOST, what));
        }
        due("heard(0, 0, 1, 0)", 4, x.heard(0, 0, 1, 0));
    }

    static void promise12NoWords() {
        FarVoice x = lips(VOICE, 5, 0);
        due("heard(0, 0, 0, 0)", -1, x.heard(0, 0, 0, 0));
    }

    static void promise12NoSuchVoiceOrSeat() {
        FarVoice x = lips(VOICE, 5, 0, 3);
        for (int none : new int[] {-1, 1, LEAST, MOST}) {
            due("heard(" + none + ", 0, 0, 0)", -1, x.heard(none, 0, 0, 0));
            due("heard(0, " + none + ", 0, 0)", -1, x.heard(0, none, 0, 0));
        }
    }

    static void promise12NoSuchWhat() {
        FarVoice x = lips(VOICE, 5, 0, 3);
        for (int none : new int[] {-1, 3, LEAST, MOST}) {
            due("heard(0, 0, 0, " + none + ")", -1, x.heard(0, 0, 0, none));
        }
    }
}
