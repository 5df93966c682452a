/** Promises 10 to 18, 21 to 23: voices, what seats hold and hear of them, slips, turns, judging. */
final class VoiceTests {
    private VoiceTests() {
    }

    private static void due(String call, long want, long got) {
        Check.due(call, want, got);
    }

    private static void dueRow(String what, FarVoice x, int[] call, int... wants) {
        for (int t = 0; t < wants.length; t++) {
            due(what + " in tenth " + t, wants[t], x.held(call[0], call[1], t, call[2]));
        }
    }

    static void promise10Voice() {
        FarVoice x = new FarVoice();
        due("voice(-1, 0)", -1, x.voice(-1, 0));
        due("voice(7, 10)", -1, x.voice(7, 10));
        due("voice(0, 10)", -2, x.voice(0, 10));
        due("voice(6, -1)", -2, x.voice(6, -1));
        for (int n = 0; n < 10; n++) {
            due("voice " + n, n, x.voice(n % 7, n));
        }
        due("voice(0, 0)", -4, x.voice(0, 0));
        due("voice(7, 0)", -1, x.voice(7, 0));
        due("voice(0, 10), full", -2, x.voice(0, 10));
        due("count(3)", 10, x.count(3));
        due("there is no tenth", -1, x.houseful(10, 0));
        due("there is a ninth", 0, x.houseful(9, 0));
    }

    static void promise11EarAndEye() {
        FarVoice x = new FarVoice();
        x.seat(6, 23);
        x.seat(40, 0);
        int[] numbers = {3, 4, 5, 9, 2, 7, 8};
        for (int kind = 0; kind < 7; kind++) {
            x.voice(kind, numbers[kind]);
        }
        for (int kind = 0; kind < 7; kind++) {
            int ear = kind == 2 ? 6 : kind == 5 ? 8 : kind == 3 || kind == 6 ? 2 : 1;
            due("EAR of kind " + kind, ear, x.held(kind, 0, 39, 0));
            due("EYE of kind " + kind, 1, x.held(kind, 0, 39, 1));
        }
        Stages.house(x, "ear 5 f<7;ear 7 o=3;eye 4 f>39;ear 9 k=3;eye 2 t>1&t<4;eye 3 l=4;eye 20 l=99;ear 1 !f=6");
        Stages.say(x, 8, 4);
        due("EAR: f, o", 13, x.held(0, 0, 0, 0));
        due("EAR of another seat: not f", 2, x.held(0, 1, 0, 0));
        due("EAR: k, twice", 44, x.held(3, 0, 0, 0));
        due("EAR of DUBBED, twice", 26, x.held(6, 0, 0, 0));
        due("EAR of SWAPPED", 20, x.held(5, 0, 0, 0));
        dueRow("EYE by t and l", x, new int[] {0, 0, 1}, 1, 1, 6, 6, 21, 21);
        due("EYE: f", 5, x.held(0, 1, 0, 1));
        x.mouth(26);
        due("o is 3 on the other side, too", 13, x.held(0, 0, 0, 0));
        x.mouth(27);
        due("o is 4", 6, x.held(0, 0, 0, 0));
    }

    static void promise11AtMostSixty() {
        FarVoice x = Stages.one(0, 0);
        x.voice(2, 9);
        x.voice(3, 0);
        Stages.house(x, "ear 58 f>0;eye 59 f>0");
        due("EAR 59", 59, x.held(0, 0, 0, 0));
        due("EYE 60", 60, x.held(0, 0, 0, 1));
        Stages.house(x, "ear 30 f>0;ear 30 f>0;eye 99 f>0");
        due("EAR 60 of 61", 60, x.held(0, 0, 0, 0));
        due("EYE 60 of 100", 60, x.held(0, 0, 0, 1));
        due("BOXED: 9 more", 69, x.held(1, 0, 0, 0));
        due("FAR: twice", 120, x.held(2, 0, 0, 0));
    }

    static void promise11TenClauses() {
        FarVoice x = Stages.one(0, 0);
        due("ten clauses", 0, Stages.house(x, Stages.repeat("ear 1 f=5", 10, ";")));
        due("EAR", 11, x.held(0, 0, 0, 0));
        due("EYE", 1, x.held(0, 0, 0, 1));
        due("ten more", 1, Stages.house(x, Stages.repeat("eye 2 f=5", 9, ";") + ";ear 3 f=5"));
        due("EAR", 4, x.held(0, 0, 0, 0));
        due("EYE", 19, x.held(0, 0, 0, 1));
    }

    static void promise11TheTexts() {
        String[] hold = {
            "f=5|f=6&f=7", "f=6&f=7|f=5", "!f=6&f=5", "!(f=6|f=7)", "!!f=5", "(f=6|f=5)&o=0", "k=0&l=99",
            "t=0", "f<6", "f>4", "f=05", "!f<5", "!f>5", "l>98", "(((f=5)))", "f=6|f=6|f=6|f=5", "!(!(f=5&t<1))",
            "f=6|!(f=6&f=5)&f=5", "f=5&f=5&f=5|f=6", "!f=6|f=6",
        };
        String[] fail = {
            "f=6|f=6&f=5", "!f=5", "!f=5|f=6", "!(f=5|f=6)", "(f=5|f=5)&f=6", "f<5", "f>5", "o>0", "k>0", "t>0",
            "l<99", "f=5&f=5&f=6", "!!!f=5", "!(f=6)&!(f=5)", "f=50", "f=6|(f=5&!f=5)",
        };
        for (int i = 0; i < hold.length + fail.length; i++) {
            FarVoice x = Stages.one(0, 0);
            String text = i < hold.length ? hold[i] : fail[i - hold.length];
            due("house of '" + text + "'", 0, Stages.house(x, "eye 7 " + text));
            due("EYE by '" + text + "'", i < hold.length ? 8 : 1, x.held(0, 0, 0, 1));
        }
    }

    static void promise11Sounds() {
        // kind, v, mouth, jaw, where it sounds
        int[][] rows = {
            {0, 9, 20, 26, 20}, {2, 9, 20, 26, 20}, {5, 9, 20, 26, 20},
            {1, 4, 20, 26, 24}, {1, 6, 20, 26, 26}, {1, 9, 20, 26, 26}, {1, 4, 26, 20, 22}, {1, 9, 26, 20, 20},
            {1, 5, 20, 20, 20}, {4, 4, 20, 26, 24}, {4, 9, 26, 20, 20}, {4, 0, 20, 26, 20},
            {3, 4, 20, 26, 16}, {3, 4, 26, 20, 30}, {3, 4, 20, 20, 24}, {3, 9, 5, 6, 0}, {3, 9, 35, 34, 40},
            {3, 9, 40, 40, 40}, {6, 4, 20, 26, 16}, {6, 9, 32, 31, 40}, {6, 3, 0, 0, 3},
        };
        for (int[] row : rows) {
            FarVoice x = Stages.one(row[0], row[1]);
            x.mouth(row[2]);
            x.jaw(row[3], 0);
            String what = " of kind " + row[0] + " v " + row[1] + " mouth " + row[2] + " jaw " + row[3];
            due("SOUNDS" + what, row[4], x.held(0, 0, 0, 2));
            due("HELD, not JOINED" + what, row[4], x.held(0, 0, 0, 4));
        }
    }

    static void promise11JoinedByTenths() {
        FarVoice x = Stages.one(0, 0);
        x.jaw(22, 1L << 4 | 1L << 39);
        dueRow("without words", x, new int[] {0, 0, 3}, 0, 0, 0, 0, 0, 0);
        Stages.say(x, 3, 3, 3, 3, 3);
        dueRow("late 1", x, new int[] {0, 0, 3}, 0, 0, 0, 1, 1, 1, 0, 0, 0, 0, 0);
        Stages.house(x, "late 0");
        dueRow("late 0", x, new int[] {0, 0, 3}, 0, 0, 0, 0, 1, 0, 0, 0, 0, 0, 0);
        Stages.house(x, "late 3");
        dueRow("late 3", x, new int[] {0, 0, 3}, 0, 1, 1, 1, 1, 1, 1, 1, 0, 0, 0);
        Stages.house(x, "late 99");
        dueRow("late 99", x, new int[] {0, 0, 3}, 1, 1, 1, 1, 1, 1, 1, 1, 1, 1, 0, 0);
        due("tenth 39, nothing said", 0, x.held(0, 0, 39, 3));
        FarVoice y = Stages.one(6, 3);
        Stages.house(y, "late 0;ear 20 f>0");
        Stages.say(y, 1, 1, 1, 1, 1, 1, 1, 1, 1, 1);
        Stages.say(y, 1, 1, 1, 1, 1, 1, 1, 1, 1, 1);
        y.jaw(22, 1L | 1L << 36 | 1L << 37 | 1L << 39);
        for (int t = 0; t < 40; t++) {
            due("DUBBED in tenth " + t, t == 3 || t == 39 ? 1 : 0, y.held(0, 0, t, 3));
        }
    }

    static void promise11JoinedByPlaces() {
        FarVoice x = Stages.one(0, 0);
        x.voice(1, 2);
        x.voice(2, 1);
        x.voice(3, 1);
        x.say(3);
        // EAR and EYE together: 2, 2, 3, 3
        int[][] farthest = {{18, 22}, {16, 24}, {17, 23}, {18, 22}};
        for (int voice = 0; voice < 4; voice++) {
            for (int jaw = 0; jaw <= 40; jaw++) {
                x.jaw(jaw, 1);
                boolean joined = jaw >= farthest[voice][0] && jaw <= farthest[voice][1];
                due("voice " + voice + " with the jaw at " + jaw, joined ? 1 : 0, x.held(voice, 0, 0, 3));
            }
        }
    }

    static void promise11Doubled() {
        for (int v = 0; v < 10; v++) {
            FarVoice x = Stages.one(4, v);
            Stages.say(x, 1, 1, 1, 1, 1, 1, 1, 1, 1, 1);
            x.jaw(20, Stages.ALL);
            for (int t = 0; t < 20; t++) {
                int joined = v == 0 || t % v != 0 ? 1 : 0;
                due("DOUBLED " + v + " in tenth " + t, joined, x.held(0, 0, t, 3));
            }
        }
    }

    static void promise11Held() {
        FarVoice x = Stages.one(0, 0);
        x.voice(2, 4);
        x.voice(3, 1);
        x.say(5);
        Stages.house(x, "ear 7 f>0;eye 2 f>0");
        x.jaw(26, 1);
        due("(20 * 3 + 26 * 8) / 11", 24, x.held(0, 0, 0, 4));
        due("CAUGHT", 1, x.held(0, 0, 0, 5));
        due("BOXED: (20 * 3 + 26 * 12) / 15", 24, x.held(1, 0, 0, 4));
        due("FAR: (19 * 3 + 26 * 16) / 19", 24, x.held(2, 0, 0, 4));
        x.jaw(13, 1);
        due("(20 * 3 + 13 * 8) / 11", 14, x.held(0, 0, 0, 4));
        due("FAR: (21 * 3 + 13 * 16) / 19", 14, x.held(2, 0, 0, 4));
        x.jaw(13, 0);
        due("not JOINED", 20, x.held(0, 0, 0, 4));
        due("not CAUGHT", 0, x.held(0, 0, 0, 5));
        FarVoice y = Stages.one(1, 3);
        y.jaw(26, 0);
        due("as near to both: not CAUGHT", 0, y.held(0, 0, 0, 5));
        y.jaw(25, 0);
        due("NEAR, nearer to THE JAW: CAUGHT", 1, y.held(0, 0, 0, 5));
        y.jaw(20, 0);
        due("both at one place: not CAUGHT", 0, y.held(0, 0, 0, 5));
    }

    static void promise11NoSuch() {
        FarVoice x = Stages.one(0, 0);
        due("held(0, 0, 0, 0)", 1, x.held(0, 0, 0, 0));
        due("held(1, 0, 0, 0)", -1, x.held(1, 0, 0, 0));
        due("held(-1, 0, 0, 0)", -1, x.held(-1, 0, 0, 0));
        due("held(0, 1, 0, 0)", -1, x.held(0, 1, 0, 0));
        due("held(0, -1, 0, 0)", -1, x.held(0, -1, 0, 0));
        due("held(0, 0, -1, 0)", -1, x.held(0, 0, -1, 0));
        due("held(0, 0, 40, 0)", -1, x.held(0, 0, 40, 0));
        due("held(0, 0, 39, 2)", 20, x.held(0, 0, 39, 2));
        due("held(0, 0, 0, 6)", -1, x.held(0, 0, 0, 6));
        due("held(0, 0, 0, -1)", -1, x.held(0, 0, 0, -1));
    }

    /** Seats at 5, 20 and 21; b, k, d are said; late 0; THE JAW moves in the second letter's tenths. */
    private static FarVoice three(int kind) {
        FarVoice x = new FarVoice();
        x.seat(5, 20);
        x.seat(20, 20);
        x.seat(21, 20);
        x.voice(kind, 0);
        Stages.house(x, "late 0;hears 0 0 3;hears 0 1 4;hears 5 0 6;hears 5 1 7;hears 2 0 2;hears 2 1 9;"
            + "swap 0 5;swap 9 2");
        Stages.say(x, 0, 0, 5, 5, 9);
        x.jaw(20, 0b1100001100);
        return x;
    }

    private static void dueLetter(FarVoice x, int i, int said, int... heards) {
        for (int seat = 0; seat < heards.length; seat++) {
            due("SAID " + i, said, x.heard(0, seat, i, 0));
            due("HEARD " + i + " by seat " + seat, heards[seat], x.heard(0, seat, i, 1));
        }
    }

    static void promise12Heard() {
        FarVoice x = three(0);
        dueLetter(x, 0, 0, 4, 4, 0);
        dueLetter(x, 1, 0, 3, 3, 3);
        dueLetter(x, 2, 5, 6, 6, 5);
        dueLetter(x, 3, 5, 6, 6, 5);
        dueLetter(x, 4, 9, 9, 9, 9);
        FarVoice y = three(5);
        dueLetter(y, 0, 5, 6, 6, 5);
        dueLetter(y, 1, 5, 6, 6, 6);
        dueLetter(y, 2, 5, 6, 6, 5);
        dueLetter(y, 4, 2, 2, 2, 2);
        y.jaw(20, 0);
        dueLetter(y, 4, 2, 9, 9, 2);
        due("RIGHT by lips shut and SWAP", 1, y.heard(0, 0, 4, 2));
        due("not RIGHT from afar", 0, y.heard(0, 2, 4, 2));
        due("RIGHT from afar", 1, x.heard(0, 2, 0, 2));
        due("not RIGHT near", 0, x.heard(0, 1, 0, 2));
        due("heard(0, 0, 5, 0)", -1, x.heard(0, 0, 5, 0));
        due("heard(0, 0, -1, 0)", -1, x.heard(0, 0, -1, 0));
        due("heard(1, 0, 0, 0)", -1, x.heard(1, 0, 0, 0));
        due("heard(0, 3, 0, 0)", -1, x.heard(0, 3, 0, 0));
        due("heard(0, 0, 0, 3)", -1, x.heard(0, 0, 0, 3));
        due("heard(0, 0, 0, -1)", -1, x.heard(0, 0, 0, -1));
    }

    static void promise12ByTheFirstTenth() {
        FarVoice x = Stages.one(0, 0);
        Stages.house(x, "late 0;hears 4 0 7");
        x.seat(30, 20);
        Stages.say(x, 4, 4);
        x.jaw(20, 0b0110);
        due("JOINED in the second tenth alone", 4, x.heard(0, 1, 0, 1));
        due("JOINED in the first tenth alone", 7, x.heard(0, 1, 1, 1));
    }

    static void promise13Houseful() {
        FarVoice x = new FarVoice();
        x.voice(0, 0);
        due("ALWAYS without seats", 0, x.houseful(0, -1));
        x.seat(5, 20);
        x.seat(10, 20);
        x.seat(15, 20);
        due("ALWAYS without words", 7, x.houseful(0, -1));
        due("a tenth without words", 0, x.houseful(0, 0));
        Stages.house(x, "late 0;ear 9 f=10&t<3|f=15;eye 5 f=5");
        Stages.say(x, 3, 3);
        x.jaw(26, 0b1111);
        due("houseful(0, 0)", 6, x.houseful(0, 0));
        due("houseful(0, 2)", 6, x.houseful(0, 2));
        due("houseful(0, 3)", 4, x.houseful(0, 3));
        due("houseful(0, 4)", 0, x.houseful(0, 4));
        due("houseful(0, 39)", 0, x.houseful(0, 39));
        due("ALWAYS", 4, x.houseful(0, -1));
        x.jaw(26, 0b1101);
        due("ALWAYS, not moving in one", 0, x.houseful(0, -1));
        x.jaw(26, 0b1110);
        due("ALWAYS, not in the first", 0, x.houseful(0, -1));
        x.jaw(26, 0b0111);
        due("ALWAYS, not in the last", 0, x.houseful(0, -1));
        due("houseful(0, -2)", -1, x.houseful(0, -2));
        due("houseful(0, 40)", -1, x.houseful(0, 40));
        due("houseful(1, -1)", -1, x.houseful(1, -1));
        due("houseful(-1, 0)", -1, x.houseful(-1, 0));
    }

    static void promise14Drawn() {
        FarVoice x = Stages.one(0, 0);
        int[][] kinds = {{1, 3}, {1, 9}, {2, 4}, {3, 1}, {3, 2}, {4, 2}, {6, 1}};
        for (int[] kind : kinds) {
            x.voice(kind[0], kind[1]);
        }
        Stages.say(x, 5, 5);
        x.jaw(0, 0b0010);
        due("VOICE: 2", 2, x.drawn(0, 0, 1));
        due("by late, too", 2, x.drawn(0, 0, 2));
        due("not moving", -5, x.drawn(0, 0, 3));
        due("nothing said", -5, x.drawn(0, 0, 4));
        due("NEAR 3: 5", 5, x.drawn(1, 0, 1));
        due("NEAR 9: 11", 11, x.drawn(2, 0, 1));
        due("BOXED 4: 6", 6, x.drawn(3, 0, 1));
        due("FAR 1: EAR 2, 1 off", 2, x.drawn(4, 0, 1));
        due("FAR 2: 1", 1, x.drawn(5, 0, 1));
        due("DOUBLED 2 in tenth 0", -5, x.drawn(6, 0, 0));
        due("DOUBLED 2 in tenth 1", 4, x.drawn(6, 0, 1));
        due("DUBBED 1 in tenth 0", -5, x.drawn(7, 0, 0));
        due("DUBBED 1 in tenth 1", 2, x.drawn(7, 0, 1));
        due("DUBBED 1 in tenth 3", 2, x.drawn(7, 0, 3));
        x.mouth(39);
        due("no farther than place 40", 1, x.drawn(0, 0, 1));
        x.mouth(40);
        due("d 0", 0, x.drawn(0, 0, 1));
        due("FAR 2, kept at 40", 0, x.drawn(5, 0, 1));
        Stages.house(x, "ear 1 f>0");
        x.mouth(0);
        due("FAR 2, kept at 0", 5, x.drawn(5, 0, 1));
        due("drawn(8, 0, 1)", -1, x.drawn(8, 0, 1));
        due("drawn(0, 1, 1)", -1, x.drawn(0, 1, 1));
        due("drawn(0, 0, 40)", -1, x.drawn(0, 0, 40));
        due("drawn(0, 0, -1)", -1, x.drawn(0, 0, -1));
    }

    static void promise14DrawnToNone() {
        FarVoice x = Stages.one(3, 9);
        x.say(5);
        x.jaw(20, 1);
        due("too far off, wherever THE JAW is", -5, x.drawn(0, 0, 0));
        x.mouth(38);
        // at d 0 it sounds at 40, 2 off; above, at 29 and less
        due("d 0 alone", 0, x.drawn(0, 0, 0));
    }

    static void promise15Latest() {
        FarVoice x = Stages.one(0, 0);
        due("without words", 20, x.latest(0, 0));
        Stages.say(x, 3, 4);
        due("THE JAW not moving", -5, x.latest(0, 0));
        x.jaw(22, 0b1);
        due("moving too little", -5, x.latest(0, 0));
        x.jaw(22, 0b101);
        due("not in tenth 0, if later by 2", 1, x.latest(0, 0));
        x.jaw(22, 0b11);
        due("later by 1, though not by 0", 1, x.latest(0, 0));
        x.jaw(22, 0b10010);
        due("as it is alone", 0, x.latest(0, 0));
        x.jaw(22, 0b1111);
        due("one tenth late", 1, x.latest(0, 0));
        x.jaw(23, 0b1111);
        due("too far off", -5, x.latest(0, 0));
        x.jaw(22, 0b1010100);
        due("too late as it is", -5, x.latest(0, 0));
        Stages.house(x, "late 99");
        x.jaw(22, 1L << 19);
        due("the most is 20", 20, x.latest(0, 0));
        x.jaw(22, 1L << 38);
        due("lost beyond 39", 1, x.latest(0, 0));
        x.voice(6, 1);
        due("DUBBED, lost one sooner", 0, x.latest(1, 0));
        x.voice(6, 2);
        due("DUBBED, lost at once", -5, x.latest(2, 0));
        x.voice(4, 3);
        due("DOUBLED: never in tenth 0", -5, x.latest(3, 0));
        x.voice(4, 0);
        due("DOUBLED by 0", 1, x.latest(4, 0));
        x.say(-1);
        x.say(3);
        due("DOUBLED: tenth 0 alone is one", -5, x.latest(3, 0));
        due("latest(5, 0)", -1, x.latest(5, 0));
        due("latest(0, 1)", -1, x.latest(0, 1));
        due("latest(-1, 0)", -1, x.latest(-1, 0));
        due("latest(0, -1)", -1, x.latest(0, -1));
    }

    static void promise15LatestWithGaps() {
        FarVoice x = Stages.one(0, 0);
        x.say(3);
        Stages.house(x, "late 0");
        x.jaw(20, 0b11);
        due("late 0", 0, x.latest(0, 0));
        x.jaw(20, 0b10);
        due("not in the first tenth", -5, x.latest(0, 0));
        x.jaw(20, 0b01);
        due("not in the second tenth", -5, x.latest(0, 0));
        Stages.house(x, "late 4");
        x.jaw(20, 0b1);
        due("late 4, the first tenth decides", 4, x.latest(0, 0));
        x.jaw(20, 1L << 30);
        due("too late as it is", -5, x.latest(0, 0));
    }

    static void promise16Wrong() {
        FarVoice x = three(0);
        due("wrong(0, 0)", 4, x.wrong(0, 0));
        due("wrong(0, 1)", 4, x.wrong(0, 1));
        due("wrong(0, 2)", 1, x.wrong(0, 2));
        due("wrong(0, 3)", -1, x.wrong(0, 3));
        due("wrong(1, 0)", -1, x.wrong(1, 0));
        due("wrong(-1, 0)", -1, x.wrong(-1, 0));
        due("wrong(0, -1)", -1, x.wrong(0, -1));
        FarVoice y = three(5);
        due("SWAPPED, wrong(0, 2)", 3, y.wrong(0, 2));
        y.say(-1);
        due("without words", 0, y.wrong(0, 0));
    }

    static void promise17Swap() {
        FarVoice x = three(0);
        Stages.say(x, 6, 4);
        // letter 5 (tenth 10): not JOINED: 5 or 6 said near gives 6, from afar 6 alone
        due("best for 6", 6, x.swap(0, 5, 0));
        due("by all", 3, x.swap(0, 5, 1));
        // 4: 0 with lips shut gives 4 near, 4 gives 4 for all
        due("best for 4", 4, x.swap(0, 6, 0));
        due("by all", 3, x.swap(0, 6, 1));
        // 0 heard near as 4: said as 0 by the far seat alone
        due("best for 0", 0, x.swap(0, 0, 0));
        due("by the far one", 1, x.swap(0, 0, 1));
        // 0, JOINED by all: nothing is heard as 0
        due("best for 0, JOINED", 0, x.swap(0, 1, 0));
        due("by none", 0, x.swap(0, 1, 1));
        Stages.house(x, "late 0;hears 0 0 8;hears 0 1 8;hears 8 0 0");
        due("of several the least", 8, x.swap(0, 1, 0));
        x.say(-1);
        Stages.say(x, 8, 8);
        due("said as 0 near, as 8 from afar", 0, x.swap(0, 0, 0));
        due("by two of three", 2, x.swap(0, 0, 1));
        due("JOINED by all", 3, x.swap(0, 1, 1));
        due("swap(0, 2, 0)", -1, x.swap(0, 2, 0));
        due("swap(0, -1, 0)", -1, x.swap(0, -1, 0));
        due("swap(1, 0, 0)", -1, x.swap(1, 0, 0));
        due("swap(0, 0, 2)", -1, x.swap(0, 0, 2));
        due("swap(0, 0, -1)", -1, x.swap(0, 0, -1));
        FarVoice y = three(5);
        due("SWAPPED: without SWAP", 0, y.swap(0, 0, 0));
        due("SWAPPED: by the far one", 1, y.swap(0, 0, 1));
        FarVoice w = new FarVoice();
        w.voice(0, 0);
        w.say(7);
        for (int s = 1; s <= 8; s++) {
            w.seat(5 * s, 20);
            due("by as many seats as there are", s, w.swap(0, 0, 1));
        }
        FarVoice z = new FarVoice();
        z.voice(0, 0);
        z.say(7);
        due("without seats", 0, z.swap(0, 0, 0));
        due("without seats, by none", 0, z.swap(0, 0, 1));
    }

    static void promise17TheLeastOfSeveral() {
        FarVoice x = Stages.one(0, 0);
        Stages.house(x, "hears 4 0 6;hears 3 0 6;hears 1 0 6");
        x.say(6);
        due("not 1, whose lips are shut, not 6", 3, x.swap(0, 0, 0));
        x.jaw(20, 1);
        due("JOINED: 1, lips seen open", 1, x.swap(0, 0, 0));
        Stages.house(x, "hears 6 0 1;hears 0 1 6");
        due("JOINED: none, lips shut do not count", 0, x.swap(0, 0, 1));
        due("the least of all, then", 0, x.swap(0, 0, 0));
    }

    static void promise17ByTheFirstTenth() {
        FarVoice x = Stages.one(0, 0);
        Stages.house(x, "late 0;hears 4 0 7");
        Stages.say(x, 3, 3, 3, 3, 7);
        x.seat(30, 20);
        x.jaw(20, 1L << 8);
        due("JOINED in tenth 8: 4 is heard as 7", 4, x.swap(0, 4, 0));
        due("by both", 2, x.swap(0, 4, 1));
        x.jaw(20, 1L << 9);
        due("not JOINED: 4 near alone", 7, x.swap(0, 4, 0));
    }

    static void promise18Changed() {
        FarVoice x = three(0);
        // near: 0 is never heard, 5 neither (6 for it), joined or not; 9 is right
        due("changed(0, 0)", 4, x.changed(0, 0));
        due("changed(0, 1)", 4, x.changed(0, 1));
        due("changed(0, 2)", 1, x.changed(0, 2));
        Stages.house(x, "late 0;hears 0 0 5;hears 5 0 0;hears 0 1 0");
        due("wrong then, near", 3, x.wrong(0, 0));
        // not JOINED: nothing is heard as 5 (0's lips are shut); JOINED: swaps would do
        due("changed, near", 2, x.changed(0, 0));
        due("changed, far", 0, x.changed(0, 2));
        Stages.house(x, "late 0;hears 0 0 5;hears 4 0 0;hears 5 0 9;hears 9 0 1");
        x.say(-1);
        Stages.say(x, 1, 2, 3, 4, 9);
        x.jaw(20, 1L << 8);
        due("what lips open and shut leave", 1, x.changed(0, 0));
        due("the last letter JOINED", 0, x.heard(0, 2, 4, 2));
        due("a swap would do for it", 0, x.changed(0, 2));
        Stages.house(x, "late 0;hears 9 0 1");
        due("JOINED in tenth 8: none is heard as 9", 1, x.changed(0, 2));
        FarVoice y = Stages.one(0, 0);
        y.say(6);
        y.jaw(20, 1);
        Stages.house(y, "hears 6 0 1;hears 0 1 6");
        due("JOINED: none, lips shut do not count", 1, y.changed(0, 0));
        Stages.house(y, "hears 6 0 1;hears 0 0 6");
        due("JOINED: 0 would do", 0, y.changed(0, 0));
        due("changed(0, 3)", -1, x.changed(0, 3));
        due("changed(1, 0)", -1, x.changed(1, 0));
        due("changed(-1, 0)", -1, x.changed(-1, 0));
        due("changed(0, -1)", -1, x.changed(0, -1));
    }

    static void promise21Sure() {
        FarVoice x = Stages.one(0, 0);
        x.voice(4, 2);
        x.voice(6, 2);
        due("above, without words", 0, x.sure(0, 0, 0, 0));
        due("below, without words", 1, x.sure(0, 0, 0, 1));
        Stages.say(x, 3, 3, 3);
        Stages.house(x, "late 2");
        x.jaw(22, 0b1011);
        due("no slips: sure", 1, x.sure(0, 0, 0, 0));
        due("no slips: sure", 1, x.sure(0, 0, 0, 1));
        x.slips(4);
        // tenth 0: two of them around, 1 - 4/25; tenth 2: three, 1 - 8/125; tenth 5: one
        due("tenth 0, above", 21, x.sure(0, 0, 0, 0));
        due("tenth 0, below", 25, x.sure(0, 0, 0, 1));
        due("tenth 2, above", 117, x.sure(0, 0, 2, 0));
        due("tenth 2, below", 125, x.sure(0, 0, 2, 1));
        due("tenth 5, above", 3, x.sure(0, 0, 5, 0));
        due("tenth 5, below", 5, x.sure(0, 0, 5, 1));
        due("tenth 6, nothing said", 0, x.sure(0, 0, 6, 0));
        due("tenth 6, nothing said", 1, x.sure(0, 0, 6, 1));
        due("DOUBLED in tenth 2", 0, x.sure(1, 0, 2, 0));
        due("DOUBLED in tenth 1", 117, x.sure(1, 0, 1, 0));
        due("DUBBED too far off", 0, x.sure(2, 0, 2, 0));
        x.jaw(20, 0b1011);
        due("DUBBED in tenth 0: one", 3, x.sure(2, 0, 0, 0));
        due("DUBBED in tenth 4: three", 117, x.sure(2, 0, 4, 0));
        x.slips(10);
        due("always slips, above", 0, x.sure(0, 0, 0, 0));
        due("always slips, below", 1, x.sure(0, 0, 0, 1));
        x.slips(5);
        due("a half, above", 7, x.sure(0, 0, 2, 0));
        due("a half, below", 8, x.sure(0, 0, 2, 1));
        x.slips(3);
        x.jaw(23, 0b1011);
        due("too far off", 0, x.sure(0, 0, 0, 0));
        due("too far off", 1, x.sure(0, 0, 0, 1));
    }

    static void promise21SureOfMany() {
        FarVoice x = Stages.one(0, 0);
        Stages.say(x, 3, 3, 3);
        Stages.house(x, "late 15");
        x.jaw(22, (1L << 15) - 1);
        x.slips(3);
        due("of fifteen, above", 1000000000000000L - 14348907L, x.sure(0, 0, 0, 0));
        due("of fifteen, below", 1000000000000000L, x.sure(0, 0, 0, 1));
        x.jaw(22, (1L << 16) - 1);
        due("of sixteen, above", FarVoice.NO, x.sure(0, 0, 0, 0));
        due("of sixteen, below", FarVoice.NO, x.sure(0, 0, 0, 1));
        Stages.house(x, "late 14");
        due("of fifteen again, below", 1000000000000000L, x.sure(0, 0, 0, 1));
        due("of sixteen again, below", FarVoice.NO, x.sure(0, 0, 1, 1));
        due("sure(1, 0, 0, 0)", FarVoice.NO, x.sure(1, 0, 0, 0));
        due("sure(0, 1, 0, 0)", FarVoice.NO, x.sure(0, 1, 0, 0));
        due("sure(0, 0, 40, 0)", FarVoice.NO, x.sure(0, 0, 40, 0));
        due("sure(0, 0, -1, 0)", FarVoice.NO, x.sure(0, 0, -1, 0));
        due("sure(0, 0, 0, 2)", FarVoice.NO, x.sure(0, 0, 0, 2));
        due("sure(0, 0, 0, -1)", FarVoice.NO, x.sure(0, 0, 0, -1));
    }

    static void promise22Changes() {
        FarVoice x = Stages.one(0, 0);
        x.voice(1, 4);
        due("without words", 0, x.changes(0, 1, 0, 0));
        Stages.say(x, 3);
        due("one letter", 0, x.changes(0, 1, 0, 0));
        Stages.say(x, 3, 3, 3, 3);
        due("20, 24, 20, 24, 20", 4, x.changes(0, 1, 0, 0));
        due("by more than 3", 4, x.changes(0, 1, 0, 3));
        due("by more than 4", 0, x.changes(0, 1, 0, 4));
        due("one twice", 0, x.changes(1, 1, 0, 0));
        x.jaw(22, 0b1100);
        // late 1: JOINED in the second and third letters' first tenths; (20 + 22) / 2
        due("20, 21, 21, 20, 20", 2, x.changes(0, 0, 0, 0));
        due("22, 21, 22, 20, 22", 4, x.changes(1, 0, 0, 0));
        due("by more than 1", 2, x.changes(1, 0, 0, 1));
        due("20, 22, 21, 22, 20", 4, x.changes(0, 1, 0, 0));
        x.jaw(22, 1L << 8);
        Stages.house(x, "late 0");
        due("JOINED in tenth 8 alone", 1, x.changes(0, 0, 0, 0));
        x.jaw(22, 1L << 9);
        due("JOINED in tenth 9 alone", 0, x.changes(0, 0, 0, 0));
        due("changes(2, 0, 0, 41)", -1, x.changes(2, 0, 0, 41));
        due("changes(0, 2, 0, 0)", -1, x.changes(0, 2, 0, 0));
        due("changes(-1, 0, 0, 0)", -1, x.changes(-1, 0, 0, 0));
        due("changes(0, 0, 1, 0)", -1, x.changes(0, 0, 1, 0));
        due("changes(0, 0, 0, 41)", -2, x.changes(0, 0, 0, 41));
        due("changes(0, 0, 0, -1)", -2, x.changes(0, 0, 0, -1));
        due("changes(0, 0, 0, 40)", 0, x.changes(0, 0, 0, 40));
    }

    static void promise23Judge() {
        FarVoice x = Stages.one(0, 0);
        Stages.say(x, 3, 3);
        x.jaw(22, 0b1);
        x.tape(2, 1, 6);
        int[] places = {7, 21, 21, 20, 20, 9};
        for (int i = 0; i < places.length; i++) {
            x.item(2, i, places[i]);
        }
        due("all as held", -5, x.judge(2, 1, 0, 0));
        due("otherwise at once", 0, x.judge(2, 0, 0, 0));
        due("otherwise in tenth 1", 1, x.judge(2, 2, 0, 0));
        x.item(2, 4, 19);
        due("otherwise in tenth 3", 3, x.judge(2, 1, 0, 0));
        x.tape(3, 1, 3);
        x.item(3, 0, 21);
        x.item(3, 1, 21);
        x.item(3, 2, 20);
        due("the row ends, three looked at", 103, x.judge(3, 0, 0, 0));
        due("otherwise ahead of its end", 1, x.judge(3, 1, 0, 0));
        due("from its end on", 100, x.judge(3, 3, 0, 0));
        due("from beyond its end on", 100, x.judge(3, Integer.MAX_VALUE, 0, 0));
        due("from below 0 on", 100, x.judge(3, -1, 0, 0));
        due("from far below 0 on", 100, x.judge(3, Integer.MIN_VALUE, 0, 0));
        due("holds nothing", 100, x.judge(0, 0, 0, 0));
        x.tape(4, 1, 0);
        due("a row of none", 100, x.judge(4, 0, 0, 0));
        for (int sort = 0; sort < 5; sort++) {
            x.tape(5, sort, 2);
            due("a row of sort " + sort, sort == 1 ? 0 : -12, x.judge(5, 0, 0, 0));
        }
        due("judge(6, 0, 0, 0)", -1, x.judge(6, 0, 0, 0));
        due("judge(-1, 0, 0, 0)", -1, x.judge(-1, 0, 0, 0));
        due("judge(5, 0, 1, 0)", -1, x.judge(5, 0, 1, 0));
        due("judge(5, 0, 0, 1)", -1, x.judge(5, 0, 0, 1));
        x.say(-1);
        due("nothing said, a row of booleans", -12, x.judge(5, 0, 0, 0));
        due("nothing to look at", -5, x.judge(2, 0, 0, 0));
        due("nothing to look at, nothing held", -5, x.judge(0, -1, 0, 0));
    }
}
