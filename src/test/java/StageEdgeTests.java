/**
 * Edges of THE STAGE: promises 1 to 7, 20, 24, 25 and 29. Above each test stands the sentence of the
 * document that names its edge.
 */
final class StageEdgeTests {
    private static final int LEAST = Integer.MIN_VALUE, MOST = Integer.MAX_VALUE;

    private StageEdgeTests() {
    }

    private static void due(String call, long want, long got) {
        Check.due(call, want, got);
    }

    // ---- "An object is used for at most 512 calls after it has been made"

    static void face512CallsAreAnswered() {
        FarVoice x = new FarVoice();
        for (int call = 1; call < 512; call++) {
            due("call " + call, call == 1 ? 20 : (call - 1) % 41, x.mouth(call % 41));
        }
        due("call 512", 511 % 41, x.count(6));
    }

    // ---- promise 1: "No SEATS, no WORDS."

    static void promise01NoSeatsAtFirst() {
        FarVoice x = new FarVoice();
        x.voice(0, 0);
        due("count(0)", 0, x.count(0));
        due("of(0, 0)", -1, x.of(0, 0));
        due("held(0, 0, 0, 0)", -1, x.held(0, 0, 0, 0));
        due("wrong(0, 0)", -1, x.wrong(0, 0));
    }

    static void promise01NoWordsAtFirst() {
        FarVoice x = Stages.one(0, 0);
        due("count(1)", 0, x.count(1));
        due("heard(0, 0, 0, 0)", -1, x.heard(0, 0, 0, 0));
        due("swap(0, 0, 0)", -1, x.swap(0, 0, 0));
    }

    // "VOICES, numbered 0 .. 9, as they come"
    static void promise01NoVoicesAtFirst() {
        FarVoice x = new FarVoice();
        x.seat(5, 20);
        due("count(3)", 0, x.count(3));
        due("houseful(0, -1)", -1, x.houseful(0, -1));
        due("taken(0, 0)", -11, x.taken(0, 0));
    }

    // "THE MOUTH is at a PLACE (20 at first), THE JAW at another one (26 at first)"
    static void promise01MouthAndJawAtFirst() {
        due("mouth(0)", 20, new FarVoice().mouth(0));
        due("jaw(0, 0)", 26, new FarVoice().jaw(0, 0));
    }

    // "THE JAW moves in some of them, told as bits (none at first)"
    static void promise01JawMovesInNoTenthAtFirst() {
        FarVoice x = Stages.one(0, 0);
        x.mouth(26);
        Stages.sayTimes(x, 3, 20);
        for (int t = 0; t < 40; t++) {
            due("joined in tenth " + t, 0, x.held(0, 0, t, 3));
        }
    }

    // "without one there are no CLAUSES"
    static void promise01NoHouseAtFirst() {
        FarVoice x = Stages.one(0, 0);
        due("count(2)", 0, x.count(2));
        due("late", 1, x.told(0, 3));
        due("EAR", 1, x.held(0, 0, 0, 0));
        due("EYE", 1, x.held(0, 0, 0, 1));
        for (int letter = 0; letter < 10; letter++) {
            due("heard, lips open", letter, x.told(letter, 0));
            due("heard, lips shut", letter, x.told(letter, 1));
            due("swap", letter, x.told(letter, 2));
        }
    }

    // "with odds of n of ten (0 at first)"
    static void promise01NoOddsAtFirst() {
        due("slips(10)", 0, new FarVoice().slips(10));
    }

    // "TAPES 0 .. 5 hold nothing (at first)"
    static void promise01TapesHoldNothingAtFirst() {
        FarVoice x = new FarVoice();
        for (int tape = 0; tape < 6; tape++) {
            due("read(" + tape + ", 0)", FarVoice.NO, x.read(tape, 0));
            due("item(" + tape + ", 0, 1)", -11, x.item(tape, 0, 1));
        }
    }

    static void promise01NoTextAndNoTraceAtFirst() {
        FarVoice x = new FarVoice();
        due("count(4)", 0, x.count(4));
        due("house()", -10, x.house());
        due("count(5)", 0, x.count(5));
        due("trace(0)", -1, x.trace(0));
    }

    // ---- promise 2: "THE STAGE has PLACES 0 .. 40"

    static void promise02TheFirstPlace() {
        FarVoice x = new FarVoice();
        due("mouth(0)", 20, x.mouth(0));
        due("count(6)", 0, x.count(6));
    }

    static void promise02TheLastPlace() {
        FarVoice x = new FarVoice();
        due("mouth(40)", 20, x.mouth(40));
        due("count(6)", 40, x.count(6));
    }

    static void promise02TooLow() {
        FarVoice x = new FarVoice();
        due("mouth(-1)", -1, x.mouth(-1));
        due("mouth(least)", -1, x.mouth(LEAST));
        due("where it was", 20, x.count(6));
    }

    static void promise02TooHigh() {
        FarVoice x = new FarVoice();
        due("mouth(41)", -1, x.mouth(41));
        due("mouth(most)", -1, x.mouth(MOST));
        due("where it was", 20, x.count(6));
    }

    static void promise02WhereItIsAlready() {
        FarVoice x = new FarVoice();
        due("mouth(20)", 20, x.mouth(20));
        due("mouth(20)", 20, x.mouth(20));
    }

    // ---- promise 3: "THE JAW is at a PLACE, and moves in TENTHS (bits 0 .. 39)"

    /** A stage on which each TENTH in which THE JAW moves is to be seen by itself. */
    private static FarVoice tenthByTenth() {
        FarVoice x = Stages.one(0, 0);
        Stages.house(x, "late 0");
        Stages.sayTimes(x, 3, 20);
        x.mouth(20);
        return x;
    }

    private static void dueTenths(FarVoice x, long tenths) {
        for (int t = 0; t < 40; t++) {
            due("joined in tenth " + t, tenths >> t & 1, x.held(0, 0, t, 3));
        }
    }

    static void promise03TheFirstAndTheLastPlace() {
        FarVoice x = new FarVoice();
        due("jaw(0, 0)", 26, x.jaw(0, 0));
        due("jaw(40, 0)", 0, x.jaw(40, 0));
        due("count(7)", 40, x.count(7));
    }

    static void promise03PlaceTooLow() {
        FarVoice x = new FarVoice();
        due("jaw(-1, 0)", -1, x.jaw(-1, 0));
        due("jaw(least, 0)", -1, x.jaw(LEAST, 0));
        due("where it was", 26, x.count(7));
    }

    static void promise03PlaceTooHigh() {
        FarVoice x = new FarVoice();
        due("jaw(41, 0)", -1, x.jaw(41, 0));
        due("jaw(most, 0)", -1, x.jaw(MOST, 0));
        due("where it was", 26, x.count(7));
    }

    static void promise03NoTenths() {
        FarVoice x = tenthByTenth();
        x.jaw(20, Stages.ALL);
        due("jaw(20, 0)", 20, x.jaw(20, 0));
        dueTenths(x, 0);
    }

    static void promise03TheFirstTenth() {
        FarVoice x = tenthByTenth();
        due("jaw(20, 1)", 26, x.jaw(20, 1));
        dueTenths(x, 1);
    }

    static void promise03TheLastTenth() {
        FarVoice x = tenthByTenth();
        due("jaw(20, bit 39)", 26, x.jaw(20, 1L << 39));
        dueTenths(x, 1L << 39);
    }

    static void promise03AllTenths() {
        FarVoice x = tenthByTenth();
        due("jaw(20, all)", 26, x.jaw(20, Stages.ALL));
        dueTenths(x, Stages.ALL);
    }

    static void promise03ABitTooHigh() {
        FarVoice x = tenthByTenth();
        x.jaw(20, 5);
        for (int bit = 40; bit < 64; bit++) {
            due("jaw(3, bit " + bit + ")", -2, x.jaw(3, 1L << bit | 2));
        }
        due("jaw(3, most)", -2, x.jaw(3, Long.MAX_VALUE));
        due("where it was", 20, x.count(7));
        dueTenths(x, 5);
    }

    static void promise03TenthsBelowZero() {
        FarVoice x = tenthByTenth();
        x.jaw(20, 5);
        due("jaw(3, -1)", -2, x.jaw(3, -1));
        due("jaw(3, least)", -2, x.jaw(3, Long.MIN_VALUE));
        due("where it was", 20, x.count(7));
        dueTenths(x, 5);
    }

    static void promise03NoneIsNamedAheadOfBad() {
        FarVoice x = new FarVoice();
        due("jaw(41, -1)", -1, x.jaw(41, -1));
        due("jaw(-1, bit 40)", -1, x.jaw(-1, 1L << 40));
    }

    // ---- promise 4: "SEATS 0 .. 7, as they come: how FAR (1 .. 40), and before which PLACE (SIDE)"

    static void promise04TheNearestAndTheFarthest() {
        FarVoice x = new FarVoice();
        due("seat(1, 3)", 0, x.seat(1, 3));
        due("seat(40, 3)", 1, x.seat(40, 3));
        due("FAR", 1, x.of(0, 0));
        due("FAR", 40, x.of(1, 0));
    }

    static void promise04TooNear() {
        FarVoice x = new FarVoice();
        due("seat(0, 3)", -2, x.seat(0, 3));
        due("seat(-1, 3)", -2, x.seat(-1, 3));
        due("seat(least, 3)", -2, x.seat(LEAST, 3));
        due("count(0)", 0, x.count(0));
    }

    static void promise04TooFar() {
        FarVoice x = new FarVoice();
        due("seat(41, 3)", -2, x.seat(41, 3));
        due("seat(most, 3)", -2, x.seat(MOST, 3));
        due("count(0)", 0, x.count(0));
    }

    static void promise04TheFirstAndTheLastSide() {
        FarVoice x = new FarVoice();
        due("seat(3, 0)", 0, x.seat(3, 0));
        due("seat(3, 40)", 1, x.seat(3, 40));
        due("SIDE", 0, x.of(0, 1));
        due("SIDE", 40, x.of(1, 1));
    }

    static void promise04SideTooLow() {
        FarVoice x = new FarVoice();
        due("seat(3, -1)", -1, x.seat(3, -1));
        due("seat(3, least)", -1, x.seat(3, LEAST));
        due("count(0)", 0, x.count(0));
    }

    static void promise04SideTooHigh() {
        FarVoice x = new FarVoice();
        due("seat(3, 41)", -1, x.seat(3, 41));
        due("seat(3, most)", -1, x.seat(3, MOST));
        due("count(0)", 0, x.count(0));
    }

    // "FULL: 8"
    static void promise04Full() {
        FarVoice x = new FarVoice();
        for (int s = 0; s < 8; s++) {
            due("seat " + s, s, x.seat(s + 1, 2 * s));
        }
        due("a ninth", -4, x.seat(9, 9));
        due("count(0)", 8, x.count(0));
        due("of(8, 0)", -1, x.of(8, 0));
        for (int s = 0; s < 8; s++) {
            due("FAR of " + s, s + 1, x.of(s, 0));
            due("SIDE of " + s, 2 * s, x.of(s, 1));
        }
    }

    static void promise04TheOrderOfRefusals() {
        FarVoice x = new FarVoice();
        due("seat(0, 41)", -2, x.seat(0, 41));
        due("seat(41, -1)", -2, x.seat(41, -1));
        for (int s = 0; s < 8; s++) {
            x.seat(1, 1);
        }
        due("seat(0, 1), full", -2, x.seat(0, 1));
        due("seat(1, 41), full", -1, x.seat(1, 41));
    }

    // ---- promise 5: "Of a SEAT what 0 how FAR, 1 SIDE. NONE."

    static void promise05NoSuchSeat() {
        FarVoice x = new FarVoice();
        due("of(0, 0), no seats", -1, x.of(0, 0));
        x.seat(3, 4);
        due("of(-1, 0)", -1, x.of(-1, 0));
        due("of(1, 0)", -1, x.of(1, 0));
        due("of(least, 0)", -1, x.of(LEAST, 0));
        due("of(most, 1)", -1, x.of(MOST, 1));
    }

    static void promise05NoSuchWhat() {
        FarVoice x = new FarVoice();
        x.seat(3, 4);
        due("of(0, -1)", -1, x.of(0, -1));
        due("of(0, 2)", -1, x.of(0, 2));
        due("of(0, least)", -1, x.of(0, LEAST));
        due("of(0, most)", -1, x.of(0, MOST));
    }

    // ---- promise 6: "A LETTER (0 .. 9) comes to WORDS: how many there are"

    static void promise06TheFirstAndTheLastLetter() {
        FarVoice x = Stages.one(0, 0);
        due("say(0)", 1, x.say(0));
        due("say(9)", 2, x.say(9));
        due("the first", 0, x.heard(0, 0, 0, 0));
        due("the second", 9, x.heard(0, 0, 1, 0));
    }

    static void promise06LetterTooLow() {
        FarVoice x = new FarVoice();
        x.say(3);
        due("say(-2)", -1, x.say(-2));
        due("say(least)", -1, x.say(LEAST));
        due("count(1)", 1, x.count(1));
    }

    static void promise06LetterTooHigh() {
        FarVoice x = new FarVoice();
        x.say(3);
        due("say(10)", -1, x.say(10));
        due("say(most)", -1, x.say(MOST));
        due("count(1)", 1, x.count(1));
    }

    // "(-1: there are none then, 0)"
    static void promise06MinusOneEmptiesWords() {
        FarVoice x = Stages.one(0, 0);
        Stages.say(x, 3, 4);
        due("say(-1)", 0, x.say(-1));
        due("count(1)", 0, x.count(1));
        due("heard(0, 0, 0, 0)", -1, x.heard(0, 0, 0, 0));
        due("say(7)", 1, x.say(7));
        due("the one there is", 7, x.heard(0, 0, 0, 0));
        due("no second one", -1, x.heard(0, 0, 1, 0));
    }

    static void promise06MinusOneOfEmptyWords() {
        FarVoice x = new FarVoice();
        due("say(-1)", 0, x.say(-1));
        due("count(1)", 0, x.count(1));
    }

    // "FULL: 20"
    static void promise06Full() {
        FarVoice x = Stages.one(0, 0);
        for (int n = 1; n <= 20; n++) {
            due("say " + n, n, x.say(n % 7));
        }
        due("a 21st", -4, x.say(9));
        due("count(1)", 20, x.count(1));
        for (int i = 0; i < 20; i++) {
            due("letter " + i, (i + 1) % 7, x.heard(0, 0, i, 0));
        }
        due("letter 20", -1, x.heard(0, 0, 20, 0));
    }

    static void promise06FullButForMinusOne() {
        FarVoice x = new FarVoice();
        Stages.sayTimes(x, 5, 20);
        due("say(-1), full", 0, x.say(-1));
        due("room again", 1, x.say(5));
    }

    static void promise06NoneIsNamedAheadOfFull() {
        FarVoice x = new FarVoice();
        Stages.sayTimes(x, 5, 20);
        due("say(10), full", -1, x.say(10));
        due("say(-2), full", -1, x.say(-2));
    }

    // "the i-th is said in TENTHS 2 i and 2 i + 1"
    static void promise06TheTenthsOfALetter() {
        FarVoice x = Stages.one(0, 0);
        Stages.house(x, "ear 1 l=7;ear 2 l=8;ear 4 l=99");
        Stages.say(x, 7, 8, 7);
        int[] ears = {2, 2, 3, 3, 2, 2, 5, 5};
        for (int t = 0; t < ears.length; t++) {
            due("EAR in tenth " + t, ears[t], x.held(0, 0, t, 0));
        }
        due("EAR in tenth 39", 5, x.held(0, 0, 39, 0));
    }

    static void promise06TheTenthsOfTheLastLetter() {
        FarVoice x = Stages.one(0, 0);
        Stages.house(x, "ear 1 l=7;ear 2 l=8;ear 4 l=99");
        Stages.sayTimes(x, 7, 19);
        x.say(8);
        due("EAR in tenth 37", 2, x.held(0, 0, 37, 0));
        due("EAR in tenth 38", 3, x.held(0, 0, 38, 0));
        due("EAR in tenth 39", 3, x.held(0, 0, 39, 0));
    }

    // ---- promise 7: "The n lowest bytes of a number, the highest first (n 0 .. 4)"

    static void promise07NoBytes() {
        FarVoice x = new FarVoice();
        due("feed(-1, 0)", 0, x.feed(-1, 0));
        due("feed(120, 1)", 1, x.feed(120, 1));
        due("feed(-1, 0)", 1, x.feed(-1, 0));
        due("count(4)", 1, x.count(4));
    }

    static void promise07OneToFourBytes() {
        int bytes = 'l' << 24 | 'a' << 16 | 't' << 8 | 'e';
        String[] texts = {"e", "te", "ate", "late"};
        int[] faults = {-11, -10, -10, -14};
        for (int n = 1; n <= 4; n++) {
            FarVoice x = new FarVoice();
            due("feed(late, " + n + ")", n, x.feed(bytes, n));
            due("house() of " + texts[n - 1], faults[n - 1], x.house());
        }
        FarVoice x = new FarVoice();
        x.feed('q' << 24 | 'q' << 16 | 'l' << 8 | 'a', 2);
        x.feed('q' << 24 | 't' << 16 | 'e' << 8 | ' ', 3);
        x.feed('q' << 24 | 'q' << 16 | 'q' << 8 | '8', 1);
        due("house() of late 8", 0, x.house());
        due("late", 8, x.told(0, 3));
    }

    static void promise07TooFewBytes() {
        FarVoice x = new FarVoice();
        due("feed(120, -1)", -2, x.feed(120, -1));
        due("feed(120, least)", -2, x.feed(120, LEAST));
        due("count(4)", 0, x.count(4));
    }

    static void promise07TooManyBytes() {
        FarVoice x = new FarVoice();
        due("feed(120, 5)", -2, x.feed(120, 5));
        due("feed(120, most)", -2, x.feed(120, MOST));
        due("count(4)", 0, x.count(4));
    }

    // a byte is 0 .. 255: the sign of the number plays no part
    static void promise07BytesOfANumberBelowZero() {
        FarVoice x = new FarVoice();
        Stages.feed(x, "late");
        due("feed(0xFFFF2039, 2)", 6, x.feed(0xFFFF2039, 2));
        due("house()", 0, x.house());
        due("late", 9, x.told(0, 3));
        x.feed(0x80000000, 4);
        due("house() of byte 128 and three of 0", -10, x.house());
    }

    // "THE TEXT (bytes, 100 at most)"; "FULL"
    static void promise07UpToAHundred() {
        for (int n = 1; n <= 4; n++) {
            FarVoice x = new FarVoice();
            Stages.feed(x, Stages.repeat("x", 100 - n, ""));
            due("feed(0, " + n + ") behind " + (100 - n), 100, x.feed(0, n));
        }
    }

    static void promise07OneBeyondAHundred() {
        for (int n = 1; n <= 4; n++) {
            FarVoice x = new FarVoice();
            Stages.feed(x, Stages.repeat("x", 101 - n, ""));
            due("feed(0, " + n + ") behind " + (101 - n), -4, x.feed(0, n));
            due("none of its bytes has come", 101 - n, x.count(4));
        }
    }

    static void promise07WhatIsFullTakesNoBytes() {
        FarVoice x = new FarVoice();
        Stages.feed(x, Stages.repeat("x", 100, ""));
        due("feed(0, 0), full", 100, x.feed(0, 0));
        due("feed(0, 1), full", -4, x.feed(0, 1));
    }

    static void promise07BadIsNamedAheadOfFull() {
        FarVoice x = new FarVoice();
        Stages.feed(x, Stages.repeat("x", 100, ""));
        due("feed(0, 5), full", -2, x.feed(0, 5));
        due("feed(0, -1), full", -2, x.feed(0, -1));
    }

    // ---- promise 20: "Odds of SLIPS become n (0 .. 10): what they were. BAD."

    static void promise20TheLeastAndTheMost() {
        FarVoice x = new FarVoice();
        due("slips(10)", 0, x.slips(10));
        due("slips(0)", 10, x.slips(0));
        due("slips(0)", 0, x.slips(0));
    }

    static void promise20TooLow() {
        FarVoice x = new FarVoice();
        x.slips(6);
        due("slips(-1)", -2, x.slips(-1));
        due("slips(least)", -2, x.slips(LEAST));
        due("what they were", 6, x.slips(1));
    }

    static void promise20TooHigh() {
        FarVoice x = new FarVoice();
        x.slips(6);
        due("slips(11)", -2, x.slips(11));
        due("slips(most)", -2, x.slips(MOST));
        due("what they were", 6, x.slips(1));
    }

    // ---- promises 24 and 25: "THE IMAGE is taken: how many LETTERS there are."; "STATE: there is none."

    static void promise24OfNoWords() {
        due("image()", 0, new FarVoice().image());
    }

    static void promise24OfAllWords() {
        FarVoice x = new FarVoice();
        Stages.sayTimes(x, 5, 20);
        due("image()", 20, x.image());
        due("say(5), full as before", -4, x.say(5));
    }

    static void promise24TakenAgain() {
        FarVoice x = new FarVoice();
        x.say(5);
        x.image();
        x.mouth(3);
        due("image()", 1, x.image());
        x.mouth(4);
        x.undo();
        due("THE MOUTH", 3, x.count(6));
    }

    static void promise25WithoutAnImage() {
        FarVoice x = new FarVoice();
        x.mouth(3);
        x.jaw(4, 1);
        x.say(5);
        x.slips(6);
        due("undo()", -3, x.undo());
        due("THE MOUTH", 3, x.count(6));
        due("THE JAW", 4, x.count(7));
        due("LETTERS", 1, x.count(1));
        due("odds", 6, x.slips(0));
        due("undo() again", -3, x.undo());
    }

    static void promise25ToNoWords() {
        FarVoice x = new FarVoice();
        x.image();
        Stages.sayTimes(x, 5, 20);
        due("undo()", 0, x.undo());
        due("count(1)", 0, x.count(1));
        due("room for one", 1, x.say(5));
    }

    static void promise25ToAllWords() {
        FarVoice x = Stages.one(0, 0);
        for (int i = 0; i < 20; i++) {
            x.say(i % 10);
        }
        x.image();
        x.say(-1);
        x.say(3);
        due("undo()", 20, x.undo());
        for (int i = 0; i < 20; i++) {
            due("letter " + i, i % 10, x.heard(0, 0, i, 0));
        }
        due("no room", -4, x.say(5));
    }

    static void promise25AtOnce() {
        FarVoice x = new FarVoice();
        Stages.say(x, 5, 6);
        x.image();
        due("undo()", 2, x.undo());
        due("undo()", 2, x.undo());
        due("THE MOUTH", 20, x.count(6));
        due("THE JAW", 26, x.count(7));
    }

    // "THE IMAGE: THE MOUTH, THE JAW and its TENTHS, WORDS, odds of SLIPS, which HOUSE holds": each by itself
    static void promise25TheMouth() {
        FarVoice x = new FarVoice();
        for (int place : new int[] {0, 40, 20}) {
            x.mouth(place);
            x.image();
            x.mouth(13);
            x.undo();
            due("THE MOUTH", place, x.count(6));
            due("THE JAW", 26, x.count(7));
        }
    }

    static void promise25TheJaw() {
        FarVoice x = new FarVoice();
        for (int place : new int[] {0, 40, 26}) {
            x.jaw(place, 0);
            x.image();
            x.jaw(13, 0);
            x.undo();
            due("THE JAW", place, x.count(7));
            due("THE MOUTH", 20, x.count(6));
        }
    }

    static void promise25ItsTenths() {
        for (long tenths : new long[] {0, 1, 1L << 39, Stages.ALL, 0x5A5A5A5A5AL}) {
            FarVoice x = tenthByTenth();
            x.jaw(20, tenths);
            x.image();
            x.jaw(20, tenths ^ Stages.ALL);
            dueTenths(x, tenths ^ Stages.ALL);
            x.undo();
            dueTenths(x, tenths);
        }
    }

    static void promise25TheTenthsAtFirst() {
        FarVoice x = tenthByTenth();
        x.jaw(20, 0);
        x.image();
        x.jaw(20, Stages.ALL);
        x.undo();
        dueTenths(x, 0);
    }

    static void promise25Odds() {
        FarVoice x = new FarVoice();
        for (int odds = 0; odds <= 10; odds++) {
            x.slips(odds);
            x.image();
            x.slips(10 - odds);
            x.undo();
            due("odds", odds, x.slips(3));
        }
    }

    static void promise25WhichHouse() {
        FarVoice x = new FarVoice();
        for (int h = 0; h < 5; h++) {
            Stages.house(x, "late " + (3 + h));
            if (h == 2) {
                x.image();
            }
        }
        due("late of the newest", 7, x.told(0, 3));
        x.undo();
        due("late of the third", 5, x.told(0, 3));
    }

    // what is said, moved or told after undo() is no part of THE IMAGE
    static void promise25TheImageStaysAsItWasTaken() {
        FarVoice x = Stages.one(0, 0);
        Stages.say(x, 4, 5);
        x.image();
        x.undo();
        x.say(-1);
        Stages.say(x, 6, 7, 8);
        x.mouth(1);
        x.jaw(2, 3);
        x.slips(9);
        due("undo()", 2, x.undo());
        due("the first letter", 4, x.heard(0, 0, 0, 0));
        due("the second letter", 5, x.heard(0, 0, 1, 0));
        due("THE MOUTH", 20, x.count(6));
        due("THE JAW", 26, x.count(7));
        due("odds", 0, x.slips(0));
    }

    // ... and a HOUSE that is read afterwards holds
    static void promise25ThenTheNewestHouseHoldsAgain() {
        FarVoice x = new FarVoice();
        x.image();
        Stages.house(x, "late 4");
        x.undo();
        due("late without a house", 1, x.told(0, 3));
        due("a second house", 1, Stages.house(x, "late 5"));
        due("late", 5, x.told(0, 3));
    }

    // "which HOUSE holds": none, too
    static void promise25ToNoHouse() {
        FarVoice x = Stages.one(0, 0);
        x.image();
        Stages.house(x, "late 9;ear 4 f=5");
        x.undo();
        due("late", 1, x.told(0, 3));
        due("EAR", 1, x.held(0, 0, 0, 0));
        due("HOUSES there are", 1, x.count(2));
    }

    // the HOUSES there are stay: the fifth is the last, whichever holds
    static void promise25DoesNotMakeRoomForHouses() {
        FarVoice x = new FarVoice();
        Stages.house(x, "late 2");
        x.image();
        for (int h = 1; h < 5; h++) {
            due("house " + h, h, Stages.house(x, "late " + (2 + h)));
        }
        x.undo();
        due("late", 2, x.told(0, 3));
        due("a sixth", -4, Stages.house(x, "late 9"));
        due("late", 2, x.told(0, 3));
    }

    // "(SEATS, VOICES stay)"
    static void promise25SeatsAndVoicesStay() {
        FarVoice x = new FarVoice();
        x.image();
        for (int s = 0; s < 8; s++) {
            x.seat(s + 1, s);
        }
        for (int v = 0; v < 10; v++) {
            x.voice(0, v);
        }
        x.undo();
        due("SEATS", 8, x.count(0));
        due("VOICES", 10, x.count(3));
        due("a ninth seat", -4, x.seat(1, 1));
        due("an eleventh voice", -4, x.voice(0, 0));
    }

    // ---- promise 29: "How many: 0 .. 7"; "BAD."

    static void promise29TooLow() {
        FarVoice x = new FarVoice();
        due("count(-1)", -2, x.count(-1));
        due("count(least)", -2, x.count(LEAST));
    }

    static void promise29TooHigh() {
        FarVoice x = new FarVoice();
        due("count(8)", -2, x.count(8));
        due("count(most)", -2, x.count(MOST));
    }

    static void promise29AllFull() {
        FarVoice x = new FarVoice();
        for (int n = 0; n < 9; n++) {
            x.seat(1, 1);
        }
        Stages.sayTimes(x, 1, 21);
        for (int n = 0; n < 6; n++) {
            Stages.house(x, "late 1");
        }
        for (int n = 0; n < 11; n++) {
            x.voice(0, 0);
        }
        for (int n = 0; n < 26; n++) {
            x.feed(0, 4);
        }
        int[] counts = {8, 20, 5, 10};
        for (int what = 0; what < counts.length; what++) {
            due("count(" + what + ")", counts[what], x.count(what));
        }
        // the sixth text of 6 bytes stays, and 23 times 4 more find room
        due("count(4)", 98, x.count(4));
    }
}
