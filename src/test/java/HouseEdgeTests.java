import java.util.List;

/**
 * Edges of THE TEXT and of HOUSES: promises 8 and 9. Above each test stands the sentence of the
 * document that names its edge.
 */
final class HouseEdgeTests {
    private static final String FIGURES = "0123456789";
    private static final String CLAUSE = "late 1";

    private HouseEdgeTests() {
    }

    private static void due(String call, long want, long got) {
        Check.due(call, want, got);
    }

    private static void dueNext(String text, String bytes) {
        Check.dueText("what can come behind '" + text + "'", bytes, Stages.next(text));
    }

    private static void dueFault(String text, int place) {
        due("the fault of '" + text + "'", place, Stages.fault(text));
    }

    private static void dueWhole(String text) {
        due("the fault of '" + text + "'", -1, Stages.fault(text));
    }

    // ---- "(the end of THE TEXT, if it ends too early)"

    static void promise08AnEmptyText() {
        FarVoice x = new FarVoice();
        due("house()", -10, x.house());
        due("house() again", -10, x.house());
        due("count(2)", 0, x.count(2));
    }

    static void promise08EndsTooEarly() {
        String[] wholes = {"ear 12 !(f<1|o=23)&l>99", "eye 1 t=2", "late 30", "hears 1 0 9", "swap 8 7"};
        List<String> wholeSooner = List.of("ear 12 !(f<1|o=23)", "ear 12 !(f<1|o=23)&l>9", "late 3");
        for (String whole : wholes) {
            dueWhole(whole);
            for (int n = 0; n < whole.length(); n++) {
                String text = whole.substring(0, n);
                dueFault(text, wholeSooner.contains(text) ? -1 : n);
            }
        }
    }

    // ---- "THE TEXT (bytes, 100 at most)"

    static void promise08AHundredBytes() {
        String tests = Stages.repeat("f=1", 23, "|");
        String text = "ear 10 " + tests.substring(0, tests.length() - 3) + "(f=1)";
        due("its length", 100, text.length());
        dueWhole(text);
    }

    static void promise08AHundredBytesThatEndTooEarly() {
        String text = "ear 10 " + Stages.repeat("f=1", 22, "|") + "|(f=1|";
        due("its length", 100, text.length());
        dueFault(text, 100);
    }

    static void promise08TheHundredthByteIsTheFault() {
        String text = "ear 10 " + Stages.repeat("f=1", 23, "|") + "&)";
        due("its length", 100, text.length());
        dueFault(text, 99);
    }

    // ---- "CLAUSES, 1 to 10, with ; between"

    static void promise08OneClause() {
        dueWhole(CLAUSE);
    }

    static void promise08TenClauses() {
        dueWhole(Stages.repeat(CLAUSE, 10, ";"));
        dueWhole("ear 1 f=1;" + Stages.repeat(CLAUSE, 8, ";") + ";ear 1 f=1");
    }

    static void promise08ElevenClauses() {
        dueFault(Stages.repeat(CLAUSE, 11, ";"), 69);
        dueFault("ear 1 f=1;" + Stages.repeat(CLAUSE, 10, ";"), 72);
    }

    static void promise08NothingBehindTheTenth() {
        dueNext(Stages.repeat(CLAUSE, 10, ";"), FIGURES);
        dueNext(Stages.repeat(CLAUSE, 9, ";") + ";late 12", "");
        dueNext(Stages.repeat(CLAUSE, 9, ";"), FIGURES + ";");
    }

    static void promise08SemicolonAhead() {
        dueFault(";late 1", 0);
    }

    static void promise08SemicolonBehind() {
        dueFault("late 1;", 7);
        dueFault("late 12;", 8);
    }

    static void promise08TwoSemicolons() {
        dueFault("late 1;;late 1", 7);
    }

    // "between": a blank is no part of it
    static void promise08BlanksAroundSemicolon() {
        dueFault("late 1 ;late 1", 6);
        dueFault("late 1; late 1", 7);
    }

    // ---- "ear n E; eye n E; late n; hears a b c; swap a b"

    static void promise08TheWords() {
        dueNext("", "ehls");
        dueNext("e", "ay");
        dueNext("ea", "r");
        dueNext("ey", "e");
        dueNext("l", "a");
        dueNext("la", "t");
        dueNext("lat", "e");
        dueNext("h", "e");
        dueNext("he", "a");
        dueNext("hea", "r");
        dueNext("hear", "s");
        dueNext("s", "w");
        dueNext("sw", "a");
        dueNext("swa", "p");
        dueNext("late 12;", "ehls");
        dueNext("late 12;e", "ay");
    }

    // "one blank ahead of each part behind the word"
    static void promise08ABlankBehindTheWord() {
        for (String word : new String[] {"ear", "eye", "late", "hears", "swap"}) {
            dueNext(word, " ");
        }
    }

    static void promise08ABlankAheadOfEachPart() {
        dueNext("ear 12", " ");
        dueNext("eye 1", " " + FIGURES);
        dueNext("hears 3", " ");
        dueNext("hears 3 1", " ");
        dueNext("swap 3", " ");
    }

    static void promise08NotTwoBlanks() {
        dueNext("ear ", FIGURES);
        dueNext("eye 1 ", "!(fklot");
        dueNext("late ", FIGURES);
        dueNext("hears ", FIGURES);
        dueNext("hears 3 ", "01");
        dueNext("hears 3 1 ", FIGURES);
        dueNext("swap ", FIGURES);
        dueNext("swap 3 ", FIGURES);
    }

    static void promise08NoBlankBehind() {
        dueFault("late 12 ", 7);
        dueFault("swap 1 2 ", 8);
        dueFault("hears 1 1 2 ", 11);
        dueFault("ear 1 f=1 ", 9);
    }

    // "n 1 or 2 digits"
    static void promise08NOneOrTwoDigits() {
        for (String n : new String[] {"0", "9", "00", "09", "90", "99"}) {
            dueWhole("late " + n);
            dueWhole("ear " + n + " f=1");
            dueWhole("eye " + n + " f=1");
        }
    }

    static void promise08NThreeDigits() {
        dueFault("late 100", 7);
        dueFault("late 000", 7);
        dueFault("ear 100 f=1", 6);
        dueFault("eye 001 f=1", 6);
        dueNext("late 10", ";");
    }

    static void promise08NNoDigit() {
        dueFault("late ", 5);
        dueFault("late -1", 5);
        dueFault("ear  f=1", 4);
        dueFault("eye f=1", 4);
    }

    // "a, b, c a figure 0 .. 9"
    static void promise08FiguresZeroAndNine() {
        dueWhole("swap 0 9");
        dueWhole("swap 9 0");
        dueWhole("hears 0 0 9");
        dueWhole("hears 9 1 0");
    }

    static void promise08FiguresAreOneSign() {
        dueFault("swap 10 1", 6);
        dueFault("swap 1 10", 8);
        dueFault("hears 10 1 1", 7);
        dueFault("hears 1 10 1", 9);
        dueFault("hears 1 1 10", 11);
    }

    // "of hears b is 0 or 1"
    static void promise08HearsZeroOrOne() {
        dueWhole("hears 5 0 5");
        dueWhole("hears 5 1 5");
        dueFault("hears 5 2 5", 8);
        dueFault("hears 5 9 5", 8);
        dueFault("hears 5 / 5", 8);
    }

    // ... of swap b is any figure
    static void promise08SwapToAnyFigure() {
        for (int b = 0; b < 10; b++) {
            dueWhole("swap 5 " + b);
        }
    }

    // ---- "E: T or T|E. T: F or F&T. F: !F, (E), or a TEST"

    static void promise08BehindATest() {
        dueNext("ear 1 f=12", "&;|");
        dueNext("ear 1 f=1", "&" + FIGURES + ";|");
        dueNext("ear 1 (f=12", "&)|");
        dueNext("ear 1 !f=12", "&;|");
        dueNext("ear 1 (f=12)", "&;|");
        dueNext("ear 1 ((f=12)", "&)|");
    }

    static void promise08AheadOfATest() {
        String start = "!(fklot";
        dueNext("ear 1 f=12|", start);
        dueNext("ear 1 f=12&", start);
        dueNext("ear 1 !", start);
        dueNext("ear 1 (", start);
        dueNext("ear 1 (f=12|", start);
        dueNext("ear 1 (f=12&", start);
    }

    static void promise08NothingInBrackets() {
        dueFault("ear 1 ()", 7);
    }

    static void promise08ABracketThatDoesNotClose() {
        dueFault("ear 1 (f=1", 10);
        dueFault("ear 1 (f=1;late 1", 10);
        dueFault("ear 1 (f=1|(f=1)", 16);
    }

    static void promise08ABracketThatDoesNotOpen() {
        dueFault("ear 1 f=1)", 9);
        dueFault("ear 1 (f=1))", 11);
        dueFault("ear 1 )", 6);
    }

    // "a letter, < or = or >, a number (1 or 2 digits)"
    static void promise08TheLettersOfATest() {
        dueNext("ear 1 ", "!(fklot");
    }

    static void promise08TheRelationsOfATest() {
        for (String letter : new String[] {"f", "o", "k", "l", "t"}) {
            dueNext("ear 1 " + letter, "<=>");
        }
        dueNext("ear 1 f<", FIGURES);
        dueNext("ear 1 f=", FIGURES);
        dueNext("ear 1 f>", FIGURES);
    }

    static void promise08TheNumberOfATest() {
        dueFault("ear 1 f=", 8);
        dueFault("ear 1 f=-1", 8);
        dueWhole("ear 1 f=0");
        dueWhole("ear 1 f=00");
        dueWhole("ear 1 f=99");
        dueFault("ear 1 f=100", 10);
        dueFault("ear 1 f=001", 10);
    }

    // ---- "A ( or ! within 4 others is none."

    static void promise08FourWithinOneAnother() {
        for (String text : new String[] {"((((f=1))))", "!!!!f=1", "(((!f=1)))", "!(((f=1)))", "!(!(f=1))", "((!!f=1))"}) {
            dueWhole("ear 1 " + text);
        }
    }

    static void promise08AFifthBracketWithinFour() {
        dueFault("ear 1 (((((f=1)))))", 10);
        dueFault("ear 1 !!!!(f=1)", 10);
        dueFault("ear 1 !(!((f=1)))", 10);
        dueNext("ear 1 ((((", "fklot");
        dueNext("ear 1 !!!!", "fklot");
    }

    static void promise08AFifthNegationWithinFour() {
        dueFault("ear 1 !!!!!f=1", 10);
        dueFault("ear 1 ((((!f=1))))", 10);
        dueFault("ear 1 (!(!!f=1))", 10);
        dueNext("ear 1 !(!(", "fklot");
        dueNext("ear 1 (!(!", "fklot");
    }

    static void promise08WithinThreeThereIsRoomForOne() {
        dueNext("ear 1 (((", "!(fklot");
        dueNext("ear 1 !!!", "!(fklot");
        dueNext("ear 1 ((((f=1)|", "!(fklot");
        dueNext("ear 1 ((((f=1)&", "!(fklot");
    }

    // what is closed is around no more
    static void promise08WhatIsClosedDoesNotCount() {
        dueWhole("ear 1 ((((f=1))))|((((f=1))))&((((f=1))))");
        dueWhole("ear 1 !!!!f=1|!!!!f=1&!!!!f=1");
        dueWhole("ear 1 ((((f=1)|(f=1))&((f=1))))");
        dueFault("ear 1 ((((f=1)|((f=1)))))", 16);
    }

    // a ! is around its own F alone
    static void promise08ANegationEndsWithItsFactor() {
        dueWhole("ear 1 (((!f=1&!f=1|!f=1)))");
        dueFault("ear 1 (((!f=1&!!f=1)))", 15);
    }

    static void promise08EveryClauseBeginsAnew() {
        dueWhole("ear 1 ((((f=1))));ear 1 ((((f=1))))");
        dueWhole("ear 1 !!!!f=1;eye 1 !!!!f=1");
    }

    // ---- "The FAULT: the place of the first byte with which none begins so"

    static void promise08TheFirstByteIsTheFault() {
        for (char sign = 0; sign < 256; sign++) {
            boolean begins = "ehls".indexOf(sign) >= 0;
            dueFault("" + sign, begins ? 1 : 0);
            due("house() of byte " + (int) sign, begins ? -11 : -10, Stages.house(new FarVoice(), "" + sign));
        }
    }

    static void promise08OfSeveralTheFirst() {
        dueFault("late x;late y", 5);
        dueFault("ear 1 f=1;eye 1 ?=1;late x", 16);
    }

    static void promise08CapitalsAreOthers() {
        dueFault("EAR 1 f=1", 0);
        dueFault("late 1;Late 1", 7);
        dueFault("ear 1 F=1", 6);
    }

    // ---- "THE TEXT, which is empty then (by a FAULT, too), is a HOUSE, and holds: its number."

    static void promise08TheTextIsEmptyThen() {
        FarVoice x = new FarVoice();
        due("house()", 0, Stages.house(x, "late 5"));
        due("count(4)", 0, x.count(4));
        due("house() at once", -10, x.house());
        due("the one that held holds", 5, x.told(0, 3));
    }

    static void promise08TheTextIsEmptyByAFaultToo() {
        FarVoice x = new FarVoice();
        due("house()", -16, Stages.house(x, "late 5?"));
        due("count(4)", 0, x.count(4));
        due("room for a hundred", 100, Stages.feed(x, Stages.repeat("x", 100, "")));
    }

    // "-10 less the FAULT (the one that held holds)"
    static void promise08AFaultAtTheStart() {
        due("house()", -10, Stages.house(new FarVoice(), "?"));
    }

    static void promise08AFaultAtTheEndOfAHundred() {
        String text = "ear 1 " + Stages.repeat("f=1", 23, "|") + "|!";
        FarVoice x = new FarVoice();
        due("feed", 99, Stages.feed(x, text));
        due("feed", 100, Stages.feed(x, "!"));
        due("house()", -110, x.house());
    }

    static void promise08ByAFaultTheOneThatHeldHolds() {
        FarVoice x = Stages.one(0, 0);
        Stages.house(x, "late 5;ear 7 f=5;swap 1 2");
        Stages.house(x, "late 6;ear 8 f=5;swap 1 3;");
        due("late", 5, x.told(0, 3));
        due("EAR", 8, x.held(0, 0, 0, 0));
        due("SWAP", 2, x.told(1, 2));
        due("HOUSES", 1, x.count(2));
    }

    static void promise08ByAFaultWithoutAHouseNoneHolds() {
        FarVoice x = Stages.one(0, 0);
        Stages.house(x, "late 6;ear 8 f=5;swap 1 3;");
        due("late", 1, x.told(0, 3));
        due("EAR", 1, x.held(0, 0, 0, 0));
        due("SWAP", 1, x.told(1, 2));
        due("HOUSES", 0, x.count(2));
    }

    static void promise08AFaultTakesNoNumber() {
        FarVoice x = new FarVoice();
        due("house()", 0, Stages.house(x, "late 1"));
        due("house()", -10, Stages.house(x, "?"));
        due("house()", 1, Stages.house(x, "late 2"));
    }

    // many FAULTS, one after the other, leave nothing behind of what was read until then
    static void promise08ManyFaultsLeaveNothing() {
        FarVoice x = Stages.one(0, 0);
        String text = "late 9;ear 9 " + Stages.repeat("f=5", 20, "&");
        for (int n = 0; n < 8; n++) {
            due("a fault", -10 - text.length(), Stages.house(x, text + ")"));
        }
        due("house()", 0, Stages.house(x, "ear 3 " + Stages.repeat("f=5", 6, "&") + ";ear 4 f=5&f=6;eye 5 f=6|!f=6"));
        due("EAR", 4, x.held(0, 0, 0, 0));
        due("EYE", 6, x.held(0, 0, 0, 1));
        due("late", 1, x.told(0, 3));
    }

    // "FULL: there are 5 (THE TEXT stays)"
    static void promise08Full() {
        FarVoice x = new FarVoice();
        for (int h = 0; h < 5; h++) {
            due("house " + h, h, Stages.house(x, "late " + h));
        }
        Stages.feed(x, "late 9");
        due("a sixth", -4, x.house());
        due("THE TEXT stays", 6, x.count(4));
        due("the fifth holds", 4, x.told(0, 3));
        due("HOUSES", 5, x.count(2));
    }

    static void promise08FullIsNamedAheadOfTheFault() {
        FarVoice x = new FarVoice();
        for (int h = 0; h < 5; h++) {
            Stages.house(x, "late " + h);
        }
        due("house() of nothing", -4, x.house());
        Stages.feed(x, "?");
        due("house() of a fault", -4, x.house());
        due("THE TEXT stays", 1, x.count(4));
    }

    // "The newest HOUSE holds": nothing of the ones before it
    static void promise08NothingOfAnOlderHouseHolds() {
        FarVoice x = Stages.one(0, 0);
        Stages.house(x, "late 7;ear 5 f=5;eye 5 f=5;hears 1 0 2;hears 1 1 3;swap 1 4");
        due("a newer one", 1, Stages.house(x, "swap 5 6"));
        due("late", 1, x.told(0, 3));
        due("EAR", 1, x.held(0, 0, 0, 0));
        due("EYE", 1, x.held(0, 0, 0, 1));
        due("HEARS, lips open", 1, x.told(1, 0));
        due("HEARS, lips shut", 1, x.told(1, 1));
        due("SWAP", 1, x.told(1, 2));
    }

    // ---- promise 9: "late: the last one's n (1 without)"

    static void promise09LateWithoutSuchAClause() {
        FarVoice x = new FarVoice();
        Stages.house(x, "swap 1 2");
        due("late", 1, x.told(0, 3));
    }

    static void promise09LateZeroAndNinetyNine() {
        FarVoice x = new FarVoice();
        Stages.house(x, "late 0");
        due("late", 0, x.told(0, 3));
        Stages.house(x, "late 99");
        due("late", 99, x.told(0, 3));
        Stages.house(x, "late 00");
        due("late", 0, x.told(0, 3));
    }

    static void promise09LateOfTheLast() {
        FarVoice x = new FarVoice();
        Stages.house(x, "late 9;late 3;swap 1 1;late 5;ear 1 f=1");
        due("late", 5, x.told(0, 3));
        Stages.house(x, "late 5;late 9;late 3");
        due("late", 3, x.told(0, 3));
    }

    // "by the last such clause (without: as a)"
    static void promise09HearsOfTheLast() {
        FarVoice x = new FarVoice();
        Stages.house(x, "hears 4 0 1;hears 4 1 2;hears 4 0 3;hears 4 1 5;hears 5 0 9");
        due("lips open", 3, x.told(4, 0));
        due("lips shut", 5, x.told(4, 1));
        Stages.house(x, "hears 4 0 1;hears 4 0 4");
        due("as itself again", 4, x.told(4, 0));
    }

    static void promise09HearsWithoutSuchAClause() {
        FarVoice x = new FarVoice();
        Stages.house(x, "hears 4 0 1;hears 6 1 1");
        due("the other lips", 4, x.told(4, 1));
        due("the other lips", 6, x.told(6, 0));
        due("another letter", 5, x.told(5, 0));
        due("another letter", 5, x.told(5, 1));
    }

    static void promise09HearsOfTheFirstAndTheLastLetter() {
        FarVoice x = new FarVoice();
        Stages.house(x, "hears 0 0 9;hears 0 1 8;hears 9 0 0;hears 9 1 1");
        due("told(0, 0)", 9, x.told(0, 0));
        due("told(0, 1)", 8, x.told(0, 1));
        due("told(9, 0)", 0, x.told(9, 0));
        due("told(9, 1)", 1, x.told(9, 1));
    }

    static void promise09SwapOfTheLast() {
        FarVoice x = new FarVoice();
        Stages.house(x, "swap 4 1;swap 4 2;swap 2 4;swap 4 3");
        due("told(4, 2)", 3, x.told(4, 2));
        due("told(2, 2)", 4, x.told(2, 2));
        due("told(3, 2), without: as it is", 3, x.told(3, 2));
    }

    static void promise09SwapOfTheFirstAndTheLastLetter() {
        FarVoice x = new FarVoice();
        Stages.house(x, "swap 0 9;swap 9 0");
        due("told(0, 2)", 9, x.told(0, 2));
        due("told(9, 2)", 0, x.told(9, 2));
    }

    // "For a LETTER (0 .. 9) ... NONE."
    static void promise09NoSuchLetter() {
        FarVoice x = new FarVoice();
        for (int what = 0; what < 4; what++) {
            due("told(-1, " + what + ")", -1, x.told(-1, what));
            due("told(10, " + what + ")", -1, x.told(10, what));
            due("told(least, " + what + ")", -1, x.told(Integer.MIN_VALUE, what));
            due("told(most, " + what + ")", -1, x.told(Integer.MAX_VALUE, what));
        }
    }

    static void promise09NoSuchWhat() {
        FarVoice x = new FarVoice();
        due("told(0, -1)", -1, x.told(0, -1));
        due("told(0, 4)", -1, x.told(0, 4));
        due("told(0, least)", -1, x.told(0, Integer.MIN_VALUE));
        due("told(0, most)", -1, x.told(0, Integer.MAX_VALUE));
    }

    static void promise09LateOfEveryLetter() {
        FarVoice x = new FarVoice();
        Stages.house(x, "late 6");
        due("told(0, 3)", 6, x.told(0, 3));
        due("told(9, 3)", 6, x.told(9, 3));
    }
}
