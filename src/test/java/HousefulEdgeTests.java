import java.util.function.IntBinaryOperator;

/**
 * Edges of what is asked of whole seats, rows and stages: promises 13 to 19, 21 and 22. Above each test
 * stands the sentence of the document that names its edge.
 */
final class HousefulEdgeTests {
    private static final int LEAST = Integer.MIN_VALUE, MOST = Integer.MAX_VALUE;
    private static final int[] NO_SUCH_0 = {-1, 1, LEAST, MOST};
    private static final int VOICE = 0, NEAR = 1, BOXED = 2, FAR = 3, DOUBLED = 4, SWAPPED = 5, DUBBED = 6;
    private static final long ODD_TENTHS = 0xAAAAAAAAAAL;

    private HousefulEdgeTests() {
    }

    private static void due(String call, long want, long got) {
        Check.due(call, want, got);
    }

    /** One SEAT and VOICE, so many LETTERS 3, THE MOUTH and THE JAW at 20, THE JAW moving in those TENTHS. */
    private static FarVoice at20(int kind, int v, int letters, long tenths) {
        FarVoice x = Stages.one(kind, v);
        Stages.sayTimes(x, 3, letters);
        x.jaw(20, tenths);
        return x;
    }

    // ---- promise 13: "HOUSEFUL in a TENTH: SEATS that are CAUGHT, as bits"

    /** So many SEATS; a VOICE that SOUNDS at THE JAW, so that all of them are CAUGHT. */
    private static FarVoice caught(int seats) {
        FarVoice x = new FarVoice();
        for (int s = 0; s < seats; s++) {
            x.seat(s + 1, 20);
        }
        x.voice(NEAR, 9);
        return x;
    }

    static void promise13WithoutSeats() {
        FarVoice x = caught(0);
        due("houseful(0, 0)", 0, x.houseful(0, 0));
        due("houseful(0, -1)", 0, x.houseful(0, -1));
        x.say(3);
        due("houseful(0, -1), said", 0, x.houseful(0, -1));
    }

    static void promise13TheBitsOfOneToEightSeats() {
        for (int seats = 1; seats <= 8; seats++) {
            due("of " + seats, (1 << seats) - 1, caught(seats).houseful(0, 0));
        }
    }

    static void promise13TheFirstAndTheLastSeatAlone() {
        FarVoice x = new FarVoice();
        for (int s = 0; s < 8; s++) {
            x.seat(s + 1, 20);
        }
        x.voice(VOICE, 0);
        x.say(3);
        x.jaw(24, 1);
        Stages.house(x, "ear 9 f=1|f=8");
        due("houseful(0, 0)", 129, x.houseful(0, 0));
        due("ALWAYS", 129, x.houseful(0, -1));
    }

    static void promise13NoneIsCaught() {
        FarVoice x = caught(8);
        x.voice(VOICE, 0);
        due("houseful(1, 0)", 0, x.houseful(1, 0));
    }

    static void promise13TheFirstAndTheLastTenth() {
        FarVoice x = caught(2);
        due("houseful(0, 0)", 3, x.houseful(0, 0));
        due("houseful(0, 39)", 3, x.houseful(0, 39));
    }

    static void promise13TenthTooLow() {
        FarVoice x = caught(2);
        due("houseful(0, -2)", -1, x.houseful(0, -2));
        due("houseful(0, least)", -1, x.houseful(0, LEAST));
    }

    static void promise13TenthTooHigh() {
        FarVoice x = caught(2);
        due("houseful(0, 40)", -1, x.houseful(0, 40));
        due("houseful(0, most)", -1, x.houseful(0, MOST));
    }

    static void promise13NoSuchVoice() {
        FarVoice x = caught(2);
        for (int none : NO_SUCH_0) {
            due("houseful(" + none + ", 0)", -1, x.houseful(none, 0));
            due("houseful(" + none + ", -1)", -1, x.houseful(none, -1));
        }
    }

    // "(-1: ALWAYS; without WORDS all SEATS)"
    static void promise13AlwaysWithoutWords() {
        FarVoice x = caught(8);
        x.voice(VOICE, 0);
        due("CAUGHT in every tenth", 255, x.houseful(0, -1));
        due("CAUGHT in none", 255, x.houseful(1, -1));
    }

    static void promise13AlwaysAfterWordsAreGone() {
        FarVoice x = at20(VOICE, 0, 1, 0);
        due("one letter", 0, x.houseful(0, -1));
        x.say(-1);
        due("none", 1, x.houseful(0, -1));
    }

    // "in all TENTHS in which a LETTER is said"
    private static FarVoice movingIn(long tenths, int letters) {
        FarVoice x = Stages.one(VOICE, 0);
        Stages.house(x, "late 0;ear 9 f=5");
        Stages.sayTimes(x, 3, letters);
        x.jaw(26, tenths);
        return x;
    }

    static void promise13AlwaysLooksAtTheFirstTenth() {
        due("all of four", 1, movingIn(0b1111, 2).houseful(0, -1));
        due("not the first", 0, movingIn(0b1110, 2).houseful(0, -1));
    }

    static void promise13AlwaysLooksAtTheLastTenth() {
        due("not the last", 0, movingIn(0b0111, 2).houseful(0, -1));
        due("all of forty", 1, movingIn(Stages.ALL, 20).houseful(0, -1));
        due("not the last of forty", 0, movingIn(Stages.ALL >> 1, 20).houseful(0, -1));
    }

    static void promise13AlwaysLooksAtNoTenthBehindWords() {
        due("no more than four", 1, movingIn(0b001111, 2).houseful(0, -1));
        due("four of six", 0, movingIn(0b001111, 3).houseful(0, -1));
    }

    // ---- promise 14: "the greatest d such that, THE JAW being d PLACES above THE MOUTH (a PLACE; d 0, too)"

    static void promise14NoHigherThanThePlaceForty() {
        FarVoice x = at20(VOICE, 0, 1, 1);
        Stages.house(x, "ear 60 f=5");
        int[][] rows = {{0, 40}, {20, 20}, {39, 1}, {40, 0}};
        for (int[] row : rows) {
            x.mouth(row[0]);
            due("DRAWN from " + row[0], row[1], x.drawn(0, 0, 0));
        }
    }

    static void promise14ByEarAndEyeTogether() {
        FarVoice x = at20(VOICE, 0, 1, 1);
        due("EAR and EYE 1", 2, x.drawn(0, 0, 0));
        Stages.house(x, "ear 3 f=5;eye 4 f=5");
        due("EAR 4 and EYE 5", 9, x.drawn(0, 0, 0));
        x.mouth(31);
        due("up to 40", 9, x.drawn(0, 0, 0));
        x.mouth(32);
        due("up to 40", 8, x.drawn(0, 0, 0));
    }

    static void promise14BoxedByV() {
        due("BOXED 9", 11, at20(BOXED, 9, 1, 1).drawn(0, 0, 0));
        due("SWAPPED 9", 11, at20(SWAPPED, 9, 1, 1).drawn(0, 0, 0));
        due("BOXED 0", 2, at20(BOXED, 0, 1, 1).drawn(0, 0, 0));
    }

    static void promise14WhereTheJawIsDoesNotMatter() {
        FarVoice x = at20(VOICE, 0, 1, 1);
        for (int place : new int[] {0, 19, 20, 21, 40}) {
            x.jaw(place, 1);
            due("with THE JAW at " + place, 2, x.drawn(0, 0, 0));
        }
    }

    static void promise14DZero() {
        // 20 + 2 is too far from where a FAR one SOUNDS; with both at one PLACE it SOUNDS above
        FarVoice x = at20(FAR, 3, 1, 1);
        due("FAR by 3", 0, x.drawn(0, 0, 0));
        due("FAR by 2", 1, at20(FAR, 2, 1, 1).drawn(0, 0, 0));
    }

    static void promise14DZeroAtTheLastPlace() {
        FarVoice x = at20(FAR, 9, 1, 1);
        x.mouth(40);
        due("it SOUNDS at 40", 0, x.drawn(0, 0, 0));
        x.mouth(37);
        due("it SOUNDS at 40, three off", 0, x.drawn(0, 0, 0));
        x.mouth(36);
        due("it SOUNDS at 40, four off", -5, x.drawn(0, 0, 0));
    }

    static void promise14FarKeptAt0() {
        FarVoice x = at20(FAR, 9, 1, 1);
        x.mouth(0);
        due("it SOUNDS at 0 for every JAW above", 3, x.drawn(0, 0, 0));
        x.mouth(1);
        due("from 1 on", 2, x.drawn(0, 0, 0));
    }

    // "(it SOUNDS by that JAW; ..)"
    static void promise14NearSoundsByThatJaw() {
        FarVoice x = at20(NEAR, 9, 1, 1);
        x.jaw(0, 1);
        due("9 and 2", 11, x.drawn(0, 0, 0));
        x.mouth(29);
        due("as far as 40", 11, x.drawn(0, 0, 0));
        x.mouth(30);
        due("no farther than 40", 10, x.drawn(0, 0, 0));
    }

    // "(.. -5: none)"
    static void promise14NoneWithoutWords() {
        due("nothing is said", -5, at20(VOICE, 0, 0, Stages.ALL).drawn(0, 0, 0));
    }

    static void promise14NoneBehindWords() {
        FarVoice x = at20(VOICE, 0, 2, Stages.ALL);
        due("tenth 3", 2, x.drawn(0, 0, 3));
        due("tenth 4", -5, x.drawn(0, 0, 4));
        due("tenth 39", -5, x.drawn(0, 0, 39));
    }

    static void promise14NoneIfItDoesNotMove() {
        FarVoice x = at20(VOICE, 0, 20, 1L << 5);
        due("two ahead", -5, x.drawn(0, 0, 3));
        due("one ahead", 2, x.drawn(0, 0, 4));
        due("one behind", 2, x.drawn(0, 0, 6));
        due("two behind", -5, x.drawn(0, 0, 7));
    }

    static void promise14NoneInTenthsOfDoubled() {
        FarVoice x = at20(DOUBLED, 3, 20, Stages.ALL);
        due("tenth 0", -5, x.drawn(0, 0, 0));
        due("tenth 1", 5, x.drawn(0, 0, 1));
        due("tenth 3", -5, x.drawn(0, 0, 3));
        due("v 0", 2, at20(DOUBLED, 0, 20, Stages.ALL).drawn(0, 0, 0));
    }

    static void promise14DubbedMovesLater() {
        FarVoice x = at20(DUBBED, 1, 20, 1L << 38 | 1);
        Stages.house(x, "late 0");
        due("tenth 0", -5, x.drawn(0, 0, 0));
        due("tenth 1", 2, x.drawn(0, 0, 1));
        due("tenth 38", -5, x.drawn(0, 0, 38));
        due("tenth 39", 2, x.drawn(0, 0, 39));
    }

    static void promise14NoSuch() {
        FarVoice x = at20(VOICE, 0, 1, 1);
        for (int none : NO_SUCH_0) {
            due("drawn(" + none + ", 0, 0)", -1, x.drawn(none, 0, 0));
            due("drawn(0, " + none + ", 0)", -1, x.drawn(0, none, 0));
        }
        for (int none : new int[] {-1, 40, LEAST, MOST}) {
            due("drawn(0, 0, " + none + ")", -1, x.drawn(0, 0, none));
        }
    }

    // ---- promise 15: "the greatest n (0 .. 20)"; "(20 without WORDS; -5: none)"

    static void promise15WithoutWords() {
        due("not moving", 20, at20(VOICE, 0, 0, 0).latest(0, 0));
        due("DOUBLED", 20, at20(DOUBLED, 1, 0, 0).latest(0, 0));
        FarVoice x = at20(VOICE, 0, 0, 0);
        x.jaw(40, 0);
        due("too far off", 20, x.latest(0, 0));
    }

    static void promise15TheMostIsTwenty() {
        FarVoice x = at20(VOICE, 0, 1, 1L << 5);
        Stages.house(x, "late 24");
        due("late 24: up to 24 behind tenth 0, no later", 19, x.latest(0, 0));
        Stages.house(x, "late 25");
        due("late 25", 20, x.latest(0, 0));
        Stages.house(x, "late 26");
        due("late 26", 20, x.latest(0, 0));
        Stages.house(x, "late 99");
        due("late 99", 20, x.latest(0, 0));
    }

    static void promise15TheLeastIsZero() {
        FarVoice x = at20(VOICE, 0, 1, 0b10);
        due("as it is alone", 0, x.latest(0, 0));
        x.jaw(20, 0b11);
        due("one later", 1, x.latest(0, 0));
    }

    static void promise15None() {
        due("not moving", -5, at20(VOICE, 0, 1, 0).latest(0, 0));
        due("later than late as it is", -5, at20(VOICE, 0, 1, 0b100).latest(0, 0));
        due("not in the last tenth", -5, at20(VOICE, 0, 2, 0b1).latest(0, 0));
    }

    // "the greatest n such that": those below it need not do
    static void promise15GreatestThoughLessWouldNotDo() {
        // the last of four TENTHS is reached only if THE JAW moves one later
        FarVoice x = at20(VOICE, 0, 2, 0b11);
        due("n 1 alone", 1, x.latest(0, 0));
        due("tenth 3 is not JOINED as it is", 0, x.held(0, 0, 3, 3));
    }

    // "(lost beyond 39)"
    static void promise15LostBeyondTheLastTenth() {
        FarVoice x = at20(VOICE, 0, 1, 1L << 30);
        Stages.house(x, "late 99");
        due("ten later is lost", 9, x.latest(0, 0));
        x.jaw(20, 1L << 39);
        due("one later is lost", 0, x.latest(0, 0));
        x.jaw(20, 1L << 19);
        due("twenty later is TENTH 39", 20, x.latest(0, 0));
        x.jaw(20, 1L << 20);
        due("twenty later is lost", 19, x.latest(0, 0));
    }

    static void promise15WhatIsLostDoesNotComeBack() {
        // if they went round, 39 later by 1 would be 0
        FarVoice x = at20(VOICE, 0, 1, 1L << 39 | 1);
        Stages.house(x, "late 0");
        due("tenth 1 is never JOINED", -5, x.latest(0, 0));
        x.jaw(20, 1L << 39 | 0b11);
        due("as it is alone", 0, x.latest(0, 0));
    }

    static void promise15DubbedIsLostSooner() {
        FarVoice x = at20(DUBBED, 3, 1, 1L << 30);
        Stages.house(x, "late 99;ear 9 f=5");
        due("7 and 3 later is lost", 6, x.latest(0, 0));
        x.jaw(20, 1L << 36);
        due("TENTH 39 as it is", 0, x.latest(0, 0));
        x.jaw(20, 1L << 37);
        due("lost as it is", -5, x.latest(0, 0));
    }

    // "JOINED in all TENTHS in which a LETTER is said"
    static void promise15AllFortyTenths() {
        FarVoice x = at20(VOICE, 0, 20, Stages.ALL);
        due("all but the first, late 1", 1, x.latest(0, 0));
        Stages.house(x, "late 0");
        due("late 0", 0, x.latest(0, 0));
        Stages.house(x, "late 7");
        due("late 7", 7, x.latest(0, 0));
    }

    static void promise15TooFarOff() {
        FarVoice x = at20(VOICE, 0, 1, 0b11);
        x.jaw(22, 0b11);
        due("two off", 1, x.latest(0, 0));
        x.jaw(23, 0b11);
        due("three off", -5, x.latest(0, 0));
    }

    static void promise15TooFarOffInOneTenthAlone() {
        FarVoice x = at20(VOICE, 0, 2, 0b1111);
        x.jaw(23, 0b1111);
        Stages.house(x, "eye 1 t<3");
        due("all but the last tenth", -5, x.latest(0, 0));
        Stages.house(x, "eye 1 t>0");
        due("all but the first tenth", -5, x.latest(0, 0));
        Stages.house(x, "eye 1 t<4");
        due("all of them", 1, x.latest(0, 0));
    }

    static void promise15DoubledIsNeverJoinedInTenth0() {
        for (int v = 0; v < 10; v++) {
            due("DOUBLED " + v, v == 0 ? 1 : -5, at20(DOUBLED, v, 1, Stages.ALL).latest(0, 0));
        }
    }

    static void promise15NoSuch() {
        FarVoice x = at20(VOICE, 0, 0, 0);
        for (int none : NO_SUCH_0) {
            due("latest(" + none + ", 0)", -1, x.latest(none, 0));
            due("latest(0, " + none + ")", -1, x.latest(0, none));
        }
    }

    // ---- promise 16: "how many LETTERS of WORDS are not RIGHT"

    static void promise16WithoutWords() {
        due("wrong(0, 0)", 0, at20(VOICE, 0, 0, 0).wrong(0, 0));
    }

    static void promise16NoneAndAllOfTwenty() {
        FarVoice x = at20(VOICE, 0, 20, 0);
        due("none", 0, x.wrong(0, 0));
        Stages.house(x, "hears 3 0 4");
        due("all", 20, x.wrong(0, 0));
        Stages.house(x, "late 0;hears 3 0 4");
        x.jaw(20, 1L << 38);
        due("all, JOINED in the last", 20, x.wrong(0, 0));
    }

    static void promise16TheLastLetterAlone() {
        FarVoice x = at20(VOICE, 0, 19, 0);
        x.say(7);
        Stages.house(x, "hears 7 0 4");
        due("the last", 1, x.wrong(0, 0));
    }

    static void promise16NoSuch() {
        FarVoice x = at20(VOICE, 0, 1, 0);
        for (int none : NO_SUCH_0) {
            due("wrong(" + none + ", 0)", -1, x.wrong(none, 0));
            due("wrong(0, " + none + ")", -1, x.wrong(0, none));
        }
    }

    // ---- promise 17: "the LETTER that .. would be HEARD as it by most SEATS (of several the least)"

    static void promise17WithoutSeats() {
        FarVoice x = new FarVoice();
        x.voice(VOICE, 0);
        x.say(7);
        due("the least LETTER", 0, x.swap(0, 0, 0));
        due("by none", 0, x.swap(0, 0, 1));
    }

    static void promise17ByNone() {
        FarVoice x = at20(VOICE, 0, 1, 0);
        Stages.house(x, "hears 3 0 4");
        due("the least LETTER", 0, x.swap(0, 0, 0));
        due("by none", 0, x.swap(0, 0, 1));
    }

    static void promise17ByAllEight() {
        FarVoice x = new FarVoice();
        for (int s = 0; s < 8; s++) {
            x.seat(5 * s + 1, 20);
        }
        x.voice(VOICE, 0);
        x.say(7);
        due("itself", 7, x.swap(0, 0, 0));
        due("by all", 8, x.swap(0, 0, 1));
    }

    static void promise17OfSeveralTheLeast() {
        FarVoice x = at20(VOICE, 0, 1, 0);
        Stages.house(x, "hears 9 0 3;hears 8 0 3");
        due("3 itself", 3, x.swap(0, 0, 0));
        Stages.house(x, "hears 9 0 3;hears 8 0 3;hears 3 0 1");
        due("8 ahead of 9", 8, x.swap(0, 0, 0));
        Stages.house(x, "hears 9 0 3;hears 0 1 3");
        due("0 ahead of all", 0, x.swap(0, 0, 0));
        Stages.house(x, "hears 9 0 3;hears 3 0 1");
        due("9, the last", 9, x.swap(0, 0, 0));
        due("by one", 1, x.swap(0, 0, 1));
    }

    // most, not least: a greater LETTER that more SEATS hear comes first
    static void promise17MostComesAheadOfLeast() {
        FarVoice x = new FarVoice();
        x.seat(20, 20);
        x.seat(21, 20);
        x.seat(5, 20);
        x.voice(VOICE, 0);
        x.say(7);
        Stages.house(x, "hears 7 0 1;hears 4 0 7");
        due("4 near twice, 7 from afar once", 4, x.swap(0, 0, 0));
        due("by two", 2, x.swap(0, 0, 1));
    }

    static void promise17NoFartherThan20() {
        FarVoice x = new FarVoice();
        x.seat(20, 20);
        x.voice(VOICE, 0);
        x.say(7);
        Stages.house(x, "hears 7 0 1;hears 4 0 7");
        due("near", 4, x.swap(0, 0, 0));
        FarVoice y = new FarVoice();
        y.seat(21, 20);
        y.voice(VOICE, 0);
        y.say(7);
        Stages.house(y, "hears 7 0 1;hears 4 0 7");
        due("from afar", 7, y.swap(0, 0, 0));
    }

    // "SAID for it (without SWAP)"
    static void promise17WithoutSwap() {
        for (int kind : new int[] {VOICE, SWAPPED}) {
            FarVoice x = at20(kind, 0, 1, 0);
            Stages.house(x, "swap 3 4;swap 4 3;swap 0 3");
            due("itself, kind " + kind, 3, x.swap(0, 0, 0));
            due("by one", 1, x.swap(0, 0, 1));
        }
    }

    static void promise17TheLipsOfTheLetterThatIsSaid() {
        FarVoice x = at20(VOICE, 0, 1, 0);
        Stages.house(x, "hears 3 0 9;hears 2 0 3;hears 1 1 3");
        due("not JOINED: 1, lips shut", 1, x.swap(0, 0, 0));
        x.jaw(20, 1);
        due("JOINED: 2, lips open", 2, x.swap(0, 0, 0));
    }

    static void promise17OfTheTwentiethLetter() {
        FarVoice x = at20(VOICE, 0, 19, 0);
        x.say(9);
        due("swap(0, 19, 0)", 9, x.swap(0, 19, 0));
        due("swap(0, 18, 0)", 3, x.swap(0, 18, 0));
        due("swap(0, 20, 0)", -1, x.swap(0, 20, 0));
    }

    static void promise17NoSuch() {
        FarVoice x = at20(VOICE, 0, 1, 0);
        for (int none : NO_SUCH_0) {
            due("swap(" + none + ", 0, 0)", -1, x.swap(none, 0, 0));
            due("swap(0, " + none + ", 0)", -1, x.swap(0, none, 0));
        }
        for (int none : new int[] {-1, 2, LEAST, MOST}) {
            due("swap(0, 0, " + none + ")", -1, x.swap(0, 0, none));
        }
    }

    static void promise17NoWords() {
        due("swap(0, 0, 0)", -1, at20(VOICE, 0, 0, 0).swap(0, 0, 0));
    }

    // ---- promise 18: "(0: swaps alone would do)"

    static void promise18WithoutWords() {
        due("changed(0, 0)", 0, at20(VOICE, 0, 0, 0).changed(0, 0));
    }

    static void promise18AllRight() {
        due("changed(0, 0)", 0, at20(VOICE, 0, 20, 0).changed(0, 0));
    }

    static void promise18SwapsAloneWouldDo() {
        FarVoice x = at20(VOICE, 0, 20, 0);
        Stages.house(x, "hears 3 0 4;hears 9 0 3");
        due("not RIGHT", 20, x.wrong(0, 0));
        due("9 would do", 0, x.changed(0, 0));
        Stages.house(x, "hears 3 0 4;hears 0 1 3");
        due("0 would do", 0, x.changed(0, 0));
    }

    static void promise18AllOfTwenty() {
        FarVoice x = at20(VOICE, 0, 20, 0);
        Stages.house(x, "hears 3 0 4");
        due("changed(0, 0)", 20, x.changed(0, 0));
    }

    static void promise18ByLipsAsTheyAreSeen() {
        FarVoice x = at20(VOICE, 0, 1, 0);
        Stages.house(x, "hears 3 0 4;hears 0 0 3");
        due("not JOINED: 0 is said with lips shut", 1, x.changed(0, 0));
        x.jaw(20, 1);
        due("JOINED: lips open", 0, x.changed(0, 0));
    }

    // what is RIGHT already needs no LETTER: also where a SWAPPED one is RIGHT by SWAP alone
    static void promise18RightBySwapAlone() {
        FarVoice x = at20(SWAPPED, 0, 1, 0);
        Stages.house(x, "swap 3 8;hears 8 0 3;hears 3 0 5");
        due("RIGHT", 0, x.wrong(0, 0));
        due("changed(0, 0)", 0, x.changed(0, 0));
        Stages.house(x, "swap 3 8;hears 3 0 5");
        due("not RIGHT", 1, x.wrong(0, 0));
        due("nothing is heard as 3", 1, x.changed(0, 0));
        Stages.house(x, "swap 3 8");
        due("not RIGHT", 1, x.wrong(0, 0));
        due("3 itself would do", 0, x.changed(0, 0));
    }

    static void promise18NoSuch() {
        FarVoice x = at20(VOICE, 0, 1, 0);
        for (int none : NO_SUCH_0) {
            due("changed(" + none + ", 0)", -1, x.changed(none, 0));
            due("changed(0, " + none + ")", -1, x.changed(0, none));
        }
    }

    // ---- promise 19: "k PLACES (1, 2; ascending, not one twice)"; "of several the first as a row"

    private static void dueBoxes(FarVoice x, int one, int sumOfOne, int first, int second, int sumOfTwo) {
        due("boxes(1, 0)", one, x.boxes(1, 0));
        due("boxes(1, 2)", sumOfOne, x.boxes(1, 2));
        due("boxes(2, 0)", first, x.boxes(2, 0));
        due("boxes(2, 1)", second, x.boxes(2, 1));
        due("boxes(2, 2)", sumOfTwo, x.boxes(2, 2));
    }

    private static FarVoice seats(int... farsAndSides) {
        FarVoice x = new FarVoice();
        for (int s = 0; s < farsAndSides.length; s += 2) {
            x.seat(farsAndSides[s], farsAndSides[s + 1]);
        }
        return x;
    }

    static void promise19WithoutSeats() {
        dueBoxes(seats(), 0, 0, 0, 1, 0);
    }

    static void promise19OneSeatAtTheFirstPlace() {
        dueBoxes(seats(5, 0), 0, 0, 0, 1, 0);
    }

    static void promise19OneSeatAtTheLastPlace() {
        dueBoxes(seats(5, 40), 40, 0, 0, 40, 0);
    }

    // not one twice, though one would do
    static void promise19AllBeforeOnePlace() {
        dueBoxes(seats(5, 7, 9, 7, 40, 7), 7, 0, 0, 7, 0);
    }

    static void promise19TwoAtBothEnds() {
        dueBoxes(seats(1, 0, 1, 40), 0, 40, 0, 40, 0);
        dueBoxes(seats(40, 40, 1, 0), 40, 40, 0, 40, 0);
    }

    static void promise19ASeatBetweenTwoBoxes() {
        // 10 is as far from 8 as from 12
        dueBoxes(seats(9, 8, 9, 12, 1, 10), 10, 36, 8, 12, 2);
    }

    static void promise19OfSeveralTheFirst() {
        dueBoxes(seats(3, 10, 3, 30), 10, 60, 10, 30, 0);
        dueBoxes(seats(1, 10, 1, 11, 1, 12), 11, 2, 10, 11, 1);
    }

    static void promise19TheGreatestSum() {
        FarVoice x = seats(40, 0, 40, 0, 40, 0, 40, 0, 40, 40, 40, 40, 40, 40, 40, 40);
        dueBoxes(x, 0, 6400, 0, 40, 0);
    }

    // "(-5: there is one alone)"
    static void promise19TheSecondOfOne() {
        due("boxes(1, 1)", -5, seats().boxes(1, 1));
        due("boxes(1, 1)", -5, seats(5, 7, 6, 9).boxes(1, 1));
    }

    // "BAD: k"
    static void promise19KTooLow() {
        for (int what = 0; what < 3; what++) {
            due("boxes(0, " + what + ")", -2, seats(5, 7).boxes(0, what));
            due("boxes(-1, " + what + ")", -2, seats(5, 7).boxes(-1, what));
            due("boxes(least, " + what + ")", -2, seats(5, 7).boxes(LEAST, what));
        }
    }

    static void promise19KTooHigh() {
        for (int what = 0; what < 3; what++) {
            due("boxes(3, " + what + ")", -2, seats(5, 7).boxes(3, what));
            due("boxes(most, " + what + ")", -2, seats(5, 7).boxes(MOST, what));
        }
    }

    // "NONE: what"
    static void promise19NoSuchWhat() {
        for (int none : new int[] {-1, 3, LEAST, MOST}) {
            due("boxes(1, " + none + ")", -1, seats(5, 7).boxes(1, none));
            due("boxes(2, " + none + ")", -1, seats(5, 7).boxes(2, none));
        }
    }

    static void promise19NoneIsNamedAheadOfBad() {
        due("boxes(0, 3)", -1, seats().boxes(0, 3));
        due("boxes(3, -1)", -1, seats().boxes(3, -1));
    }

    // ---- promise 21: "SURE of a SEAT and a TENTH: how likely it is JOINED: a fraction in lowest terms"

    private static void dueSure(FarVoice x, int tenth, long above, long below) {
        due("above the line in tenth " + tenth, above, x.sure(0, 0, tenth, 0));
        due("below the line in tenth " + tenth, below, x.sure(0, 0, tenth, 1));
    }

    static void promise21NeverAndAlways() {
        FarVoice x = at20(VOICE, 0, 2, 0b1);
        dueSure(x, 0, 1, 1);
        dueSure(x, 2, 0, 1);
        x.slips(10);
        dueSure(x, 0, 0, 1);
        dueSure(x, 2, 0, 1);
    }

    static void promise21EveryOddsOfOneTenth() {
        int[][] sures = {{1, 1}, {9, 10}, {4, 5}, {7, 10}, {3, 5}, {1, 2}, {2, 5}, {3, 10}, {1, 5}, {1, 10}, {0, 1}};
        FarVoice x = at20(VOICE, 0, 1, 0b1);
        for (int n = 0; n <= 10; n++) {
            x.slips(n);
            dueSure(x, 0, sures[n][0], sures[n][1]);
        }
    }

    static void promise21EveryOddsOfTwoTenths() {
        int[][] sures = {{1, 1}, {99, 100}, {24, 25}, {91, 100}, {21, 25}, {3, 4}, {16, 25}, {51, 100}, {9, 25},
            {19, 100}, {0, 1}};
        FarVoice x = at20(VOICE, 0, 1, 0b11);
        for (int n = 0; n <= 10; n++) {
            x.slips(n);
            dueSure(x, 0, sures[n][0], sures[n][1]);
        }
    }

    // "no more than late ahead or behind"
    static void promise21CountsTenthsWithinLate() {
        FarVoice x = at20(VOICE, 0, 20, 0b11111L << 4);
        x.slips(5);
        dueSure(x, 2, 0, 1);
        dueSure(x, 3, 1, 2);
        dueSure(x, 4, 3, 4);
        dueSure(x, 5, 7, 8);
        dueSure(x, 8, 3, 4);
        dueSure(x, 9, 1, 2);
        dueSure(x, 10, 0, 1);
    }

    static void promise21AtTheFirstAndTheLastTenth() {
        FarVoice x = at20(VOICE, 0, 20, Stages.ALL);
        x.slips(5);
        dueSure(x, 0, 3, 4);
        dueSure(x, 1, 7, 8);
        dueSure(x, 38, 7, 8);
        dueSure(x, 39, 3, 4);
    }

    static void promise21NothingIsSaid() {
        FarVoice x = at20(VOICE, 0, 1, Stages.ALL);
        x.slips(5);
        dueSure(x, 1, 7, 8);
        dueSure(x, 2, 0, 1);
        dueSure(x, 39, 0, 1);
        dueSure(at20(VOICE, 0, 0, Stages.ALL), 0, 0, 1);
    }

    static void promise21TooFarOff() {
        FarVoice x = at20(VOICE, 0, 1, 1);
        x.slips(5);
        x.jaw(22, 1);
        dueSure(x, 0, 1, 2);
        x.jaw(23, 1);
        dueSure(x, 0, 0, 1);
    }

    static void promise21InTenthsOfDoubled() {
        FarVoice x = at20(DOUBLED, 2, 2, Stages.ALL);
        x.slips(5);
        dueSure(x, 0, 0, 1);
        dueSure(x, 1, 7, 8);
        dueSure(x, 2, 0, 1);
    }

    // DUBBED: the TENTHS that count are the later ones; a lost one slips no more
    static void promise21OfDubbed() {
        FarVoice x = at20(DUBBED, 2, 20, 1L << 38 | 1L << 37 | 1);
        x.slips(5);
        dueSure(x, 0, 0, 1);
        dueSure(x, 1, 1, 2);
        dueSure(x, 3, 1, 2);
        dueSure(x, 4, 0, 1);
        dueSure(x, 39, 1, 2);
    }

    // "(none, if there are more than 15 TENTHS, no more than late ahead or behind, in which it moves)"
    static void promise21FifteenTenths() {
        FarVoice x = at20(VOICE, 0, 20, (1L << 15) - 1);
        Stages.house(x, "late 20");
        x.slips(9);
        dueSure(x, 10, 1000000000000000L - 205891132094649L, 1000000000000000L);
        x.slips(5);
        dueSure(x, 0, 32767, 32768);
        x.slips(6);
        dueSure(x, 10, 30517578125L - 14348907L, 30517578125L);
    }

    static void promise21SixteenTenths() {
        FarVoice x = at20(VOICE, 0, 20, (1L << 16) - 1);
        Stages.house(x, "late 20");
        for (int n = 0; n <= 10; n++) {
            x.slips(n);
            dueSure(x, 10, FarVoice.NO, FarVoice.NO);
        }
    }

    static void promise21AllFortyTenths() {
        FarVoice x = at20(VOICE, 0, 20, Stages.ALL);
        Stages.house(x, "late 99");
        dueSure(x, 0, FarVoice.NO, FarVoice.NO);
        dueSure(x, 39, FarVoice.NO, FarVoice.NO);
    }

    // the words tell no exception for where it could not be JOINED at all
    static void promise21SixteenTenthsWhereItCanNotBeJoined() {
        FarVoice silent = at20(VOICE, 0, 0, (1L << 16) - 1);
        Stages.house(silent, "late 20");
        dueSure(silent, 0, FarVoice.NO, FarVoice.NO);
        FarVoice doubled = at20(DOUBLED, 1, 20, (1L << 16) - 1);
        Stages.house(doubled, "late 20");
        dueSure(doubled, 0, FarVoice.NO, FarVoice.NO);
        FarVoice off = at20(VOICE, 0, 20, 0);
        Stages.house(off, "late 20");
        off.jaw(40, (1L << 16) - 1);
        dueSure(off, 0, FarVoice.NO, FarVoice.NO);
        off.jaw(40, (1L << 15) - 1);
        dueSure(off, 0, 0, 1);
    }

    // those farther off than late do not count
    static void promise21FifteenOfSixteenTenths() {
        FarVoice x = at20(VOICE, 0, 20, Stages.ALL);
        Stages.house(x, "late 7");
        x.slips(5);
        dueSure(x, 7, 32767, 32768);
        dueSure(x, 20, 32767, 32768);
        dueSure(x, 32, 32767, 32768);
        Stages.house(x, "late 8");
        dueSure(x, 6, 32767, 32768);
        dueSure(x, 7, FarVoice.NO, FarVoice.NO);
        dueSure(x, 32, FarVoice.NO, FarVoice.NO);
        dueSure(x, 33, 32767, 32768);
    }

    // of DUBBED what is lost beyond 39 does not count
    static void promise21FifteenOfDubbed() {
        FarVoice x = at20(DUBBED, 1, 20, 0xFFFFL << 24);
        Stages.house(x, "late 20;ear 9 f=5");
        x.slips(5);
        dueSure(x, 39, 32767, 32768);
    }

    // "NO."
    static void promise21NoSuch() {
        FarVoice x = at20(VOICE, 0, 1, 1);
        for (int none : NO_SUCH_0) {
            due("sure(" + none + ", 0, 0, 0)", FarVoice.NO, x.sure(none, 0, 0, 0));
            due("sure(0, " + none + ", 0, 0)", FarVoice.NO, x.sure(0, none, 0, 0));
        }
        for (int none : new int[] {-1, 40, LEAST, MOST}) {
            due("sure(0, 0, " + none + ", 0)", FarVoice.NO, x.sure(0, 0, none, 0));
            due("sure(0, 0, " + none + ", 1)", FarVoice.NO, x.sure(0, 0, none, 1));
        }
        for (int none : new int[] {-1, 2, LEAST, MOST}) {
            due("sure(0, 0, 0, " + none + ")", FarVoice.NO, x.sure(0, 0, 0, none));
        }
    }

    // ---- promise 22: "how often where a SEAT holds it to be changes by more than n PLACES"

    /** A VOICE at 20, 0, and a NEAR one at 24, 1. */
    private static FarVoice two(int letters) {
        FarVoice x = Stages.one(VOICE, 0);
        x.voice(NEAR, 4);
        Stages.sayTimes(x, 3, letters);
        return x;
    }

    static void promise22WithoutWords() {
        due("changes", 0, two(0).changes(0, 1, 0, 0));
    }

    static void promise22OneLetter() {
        due("changes", 0, two(1).changes(0, 1, 0, 0));
    }

    static void promise22TwoLetters() {
        due("changes", 1, two(2).changes(0, 1, 0, 0));
        due("changes", 1, two(2).changes(1, 0, 0, 0));
    }

    static void promise22TwentyLetters() {
        due("changes", 19, two(20).changes(0, 1, 0, 0));
        due("one twice", 0, two(20).changes(0, 0, 0, 0));
        due("one twice", 0, two(20).changes(1, 1, 0, 0));
    }

    static void promise22ByMoreThanN() {
        due("by more than 3", 1, two(2).changes(0, 1, 0, 3));
        due("by more than 4", 0, two(2).changes(0, 1, 0, 4));
        due("by more than 3, down", 1, two(2).changes(1, 0, 0, 3));
        due("by more than 4, down", 0, two(2).changes(1, 0, 0, 4));
    }

    // "(or one twice)": where it is held may change all the same
    static void promise22OneTwice() {
        FarVoice x = at20(VOICE, 0, 3, 0);
        Stages.house(x, "late 0");
        x.jaw(22, 0b000100);
        due("20, 21, 20", 2, x.changes(0, 0, 0, 0));
        due("by more than 1", 0, x.changes(0, 0, 0, 1));
    }

    // "from one LETTER's first TENTH to the next one's"
    static void promise22FirstTenthsAlone() {
        FarVoice x = at20(VOICE, 0, 20, 0);
        Stages.house(x, "late 0");
        x.jaw(22, ODD_TENTHS);
        due("JOINED in second tenths", 0, x.changes(0, 0, 0, 0));
        x.jaw(22, 1L << 38);
        due("JOINED in the last first tenth", 1, x.changes(0, 0, 0, 0));
        x.jaw(22, 1);
        due("JOINED in the first one", 1, x.changes(0, 0, 0, 0));
    }

    // "by n (0 .. 40)": BAD
    static void promise22TheLeastAndTheMostN() {
        due("by 0", 1, two(2).changes(0, 1, 0, 0));
        due("by 40", 0, two(2).changes(0, 1, 0, 40));
        FarVoice x = two(0);
        x.mouth(0);
        x.jaw(40, 0);
        x.voice(FAR, 0);
        x.voice(NEAR, 9);
        Stages.sayTimes(x, 3, 2);
        due("by more than 8", 1, x.changes(2, 3, 0, 8));
        due("by more than 9", 0, x.changes(2, 3, 0, 9));
    }

    static void promise22NTooLow() {
        due("by -1", -2, two(2).changes(0, 1, 0, -1));
        due("by least", -2, two(2).changes(0, 1, 0, LEAST));
    }

    static void promise22NTooHigh() {
        due("by 41", -2, two(2).changes(0, 1, 0, 41));
        due("by most", -2, two(2).changes(0, 1, 0, MOST));
    }

    static void promise22BadWithoutWords() {
        due("by 41", -2, two(0).changes(0, 1, 0, 41));
    }

    static void promise22NoSuch() {
        FarVoice x = two(2);
        for (int none : new int[] {-1, 2, LEAST, MOST}) {
            due("changes(" + none + ", 0, 0, 0)", -1, x.changes(none, 0, 0, 0));
            due("changes(0, " + none + ", 0, 0)", -1, x.changes(0, none, 0, 0));
        }
        for (int none : NO_SUCH_0) {
            due("changes(0, 1, " + none + ", 0)", -1, x.changes(0, 1, none, 0));
        }
    }

    static void promise22NoneIsNamedAheadOfBad() {
        FarVoice x = two(2);
        due("changes(2, 0, 0, 41)", -1, x.changes(2, 0, 0, 41));
        due("changes(0, 2, 0, -1)", -1, x.changes(0, 2, 0, -1));
        due("changes(0, 0, 1, 41)", -1, x.changes(0, 0, 1, 41));
    }

    // both VOICES are asked for, though a short row needs the one alone
    static void promise22NoSecondVoiceForOneLetter() {
        due("changes(0, 2, 0, 0)", -1, two(1).changes(0, 2, 0, 0));
        due("changes(2, 0, 0, 0)", -1, two(0).changes(2, 0, 0, 0));
    }

    // ---- "of a VOICE and a SEAT": each of these numbers counts for itself

    private static void dueAll(String what, int[][] answers, IntBinaryOperator call) {
        for (int v = 0; v < 3; v++) {
            for (int s = 0; s < 3; s++) {
                due(what + " of " + v + " and " + s, answers[v][s], call.applyAsInt(v, s));
            }
        }
    }

    static void promise13OfThatVoice() {
        FarVoice x = Stages.three();
        int[] caught = {0b010, 0b011, 0};
        for (int v = 0; v < 3; v++) {
            due("houseful(" + v + ", 1)", caught[v], x.houseful(v, 1));
            due("houseful(" + v + ", -1)", caught[v], x.houseful(v, -1));
        }
    }

    static void promise14OfThatVoiceAndSeat() {
        FarVoice x = Stages.three();
        // FAR: 20 and d from 11
        dueAll("DRAWN", new int[][] {{2, 6, 11}, {11, 15, 20}, {-5, 2, 3}}, (v, s) -> x.drawn(v, s, 1));
        dueAll("DRAWN, nothing said", new int[][] {{-5, -5, -5}, {-5, -5, -5}, {-5, -5, -5}}, (v, s) -> x.drawn(v, s, 4));
    }

    static void promise15OfThatVoiceAndSeat() {
        FarVoice x = Stages.three();
        dueAll("LATEST", new int[][] {{-5, 0, 0}, {0, 0, 0}, {-5, -5, -5}}, x::latest);
    }

    static void promise16OfThatVoiceAndSeat() {
        FarVoice x = Stages.three();
        dueAll("WRONG", new int[][] {{2, 2, 2}, {2, 2, 2}, {2, 2, 0}}, x::wrong);
    }

    static void promise17OfThatVoice() {
        FarVoice x = Stages.three();
        int[] best = {0, 0, 3};
        int[] by = {0, 0, 1};
        for (int v = 0; v < 3; v++) {
            due("swap(" + v + ", 1, 0)", best[v], x.swap(v, 1, 0));
            due("swap(" + v + ", 1, 1)", by[v], x.swap(v, 1, 1));
        }
    }

    static void promise18OfThatVoiceAndSeat() {
        FarVoice x = Stages.three();
        dueAll("CHANGED", new int[][] {{2, 2, 2}, {2, 2, 2}, {2, 2, 0}}, x::changed);
    }

    static void promise21OfThatVoiceAndSeat() {
        FarVoice x = Stages.three();
        x.slips(5);
        dueAll("SURE, above", new int[][] {{0, 1, 1}, {1, 1, 1}, {0, 0, 0}}, (v, s) -> (int) x.sure(v, s, 3, 0));
        dueAll("SURE, below", new int[][] {{1, 2, 2}, {2, 2, 2}, {1, 1, 1}}, (v, s) -> (int) x.sure(v, s, 3, 1));
    }

    static void promise22OfThoseVoicesAndThatSeat() {
        FarVoice x = Stages.three();
        // SEAT 0: 20, 25, 11; SEAT 1: 25, 25, 11; SEAT 2: 20, 23, 11
        int[][] off = {{0, 5, 9}, {5, 0, 14}, {9, 14, 0}};
        dueAll("by less than they are off, SEAT 0", new int[][] {{0, 1, 1}, {1, 0, 1}, {1, 1, 0}},
            (a, b) -> x.changes(a, b, 0, Math.max(0, off[a][b] - 1)));
        dueAll("by as much as they are off, SEAT 0", new int[3][3], (a, b) -> x.changes(a, b, 0, off[a][b]));
        due("SEAT 1, 25 and 25", 0, x.changes(0, 1, 1, 0));
        due("SEAT 1, 25 and 11", 1, x.changes(1, 2, 1, 13));
        due("SEAT 2, 20 and 23", 1, x.changes(0, 1, 2, 2));
        due("SEAT 2, 20 and 23", 0, x.changes(0, 1, 2, 3));
    }
}
