/** Promises 1 to 9, 19, 20, 24, 25 and 29: the stage, seats, houses, boxes, the image. */
final class StageTests {
    private StageTests() {
    }

    private static void due(String call, long want, long got) {
        Check.due(call, want, got);
    }

    static void promise01ANewObject() {
        FarVoice x = new FarVoice();
        int[] counts = {0, 0, 0, 0, 0, 0, 20, 26};
        for (int what = 0; what < counts.length; what++) {
            due("count(" + what + ")", counts[what], x.count(what));
        }
        due("of(0, 0)", -1, x.of(0, 0));
        due("slips(0)", 0, x.slips(0));
        due("undo()", -3, x.undo());
        due("trace(0)", -1, x.trace(0));
        for (int tape = 0; tape < 6; tape++) {
            due("item of tape " + tape, -11, x.item(tape, 0, 1));
        }
        FarVoice other = new FarVoice();
        other.seat(1, 1);
        other.say(3);
        other.mouth(7);
        due("count(0) beside another", 0, x.count(0));
        due("count(1) beside another", 0, x.count(1));
        due("count(6) beside another", 20, x.count(6));
    }

    static void promise02Mouth() {
        FarVoice x = new FarVoice();
        due("mouth(-1)", -1, x.mouth(-1));
        due("mouth(41)", -1, x.mouth(41));
        due("mouth(min)", -1, x.mouth(Integer.MIN_VALUE));
        due("mouth(0)", 20, x.mouth(0));
        due("mouth(40)", 0, x.mouth(40));
        due("mouth(26), where THE JAW is", 40, x.mouth(26));
        due("count(6)", 26, x.count(6));
        due("count(7)", 26, x.count(7));
    }

    static void promise03Jaw() {
        FarVoice x = new FarVoice();
        due("jaw(-1, 0)", -1, x.jaw(-1, 0));
        due("jaw(41, -1)", -1, x.jaw(41, -1));
        due("jaw(0, -1)", -2, x.jaw(0, -1));
        due("jaw(0, 1 << 40)", -2, x.jaw(0, 1L << 40));
        due("jaw(0, max)", -2, x.jaw(0, Long.MAX_VALUE));
        due("jaw(0, all)", 26, x.jaw(0, Stages.ALL));
        due("jaw(40, 0)", 0, x.jaw(40, 0));
        due("jaw(20, 0), where THE MOUTH is", 40, x.jaw(20, 0));
        due("count(7)", 20, x.count(7));
        // the bits are TENTHS: a seat holds the voice at THE JAW only while it moves
        x.seat(5, 20);
        x.voice(0, 0);
        Stages.say(x, 3, 4, 5, 6);
        x.jaw(21, 1L << 3);
        int[] joined = {0, 0, 1, 1, 1, 0, 0, 0};
        for (int t = 0; t < joined.length; t++) {
            due("joined in tenth " + t, joined[t], x.held(0, 0, t, 3));
        }
        x.jaw(21, -1);
        due("a refused jaw changes nothing", 1, x.held(0, 0, 3, 3));
    }

    static void promise04Seat() {
        FarVoice x = new FarVoice();
        due("seat(0, -1)", -2, x.seat(0, -1));
        due("seat(41, 0)", -2, x.seat(41, 0));
        due("seat(1, -1)", -1, x.seat(1, -1));
        due("seat(1, 41)", -1, x.seat(1, 41));
        for (int s = 0; s < 8; s++) {
            due("seat " + s, s, x.seat(s == 0 ? 1 : 40, s == 1 ? 40 : s));
        }
        due("seat(1, 0)", -4, x.seat(1, 0));
        due("seat(0, 0)", -2, x.seat(0, 0));
        due("seat(40, 41)", -1, x.seat(40, 41));
        due("count(0)", 8, x.count(0));
    }

    static void promise05Of() {
        FarVoice x = new FarVoice();
        due("of(0, 0) without seats", -1, x.of(0, 0));
        x.seat(7, 0);
        x.seat(40, 33);
        due("of(0, 0)", 7, x.of(0, 0));
        due("of(0, 1)", 0, x.of(0, 1));
        due("of(1, 0)", 40, x.of(1, 0));
        due("of(1, 1)", 33, x.of(1, 1));
        due("of(2, 0)", -1, x.of(2, 0));
        due("of(-1, 0)", -1, x.of(-1, 0));
        due("of(0, 2)", -1, x.of(0, 2));
        due("of(0, -1)", -1, x.of(0, -1));
    }

    static void promise06Say() {
        FarVoice x = new FarVoice();
        due("say(-2)", -1, x.say(-2));
        due("say(10)", -1, x.say(10));
        due("say(11)", -1, x.say(11));
        due("say(-1) without words", 0, x.say(-1));
        for (int n = 1; n <= 20; n++) {
            due("say " + n, n, x.say(n % 10));
        }
        due("say(0)", -4, x.say(0));
        due("say(10), full", -1, x.say(10));
        due("count(1)", 20, x.count(1));
        due("say(-1)", 0, x.say(-1));
        due("count(1) then", 0, x.count(1));
        due("say(9)", 1, x.say(9));
        x.seat(30, 1);
        x.voice(0, 0);
        due("the letter said", 9, x.heard(0, 0, 0, 0));
        due("none behind it", -1, x.heard(0, 0, 1, 0));
    }

    static void promise07Feed() {
        FarVoice x = new FarVoice();
        due("feed(1, -1)", -2, x.feed(1, -1));
        due("feed(1, 5)", -2, x.feed(1, 5));
        due("feed(1, 0)", 0, x.feed(1, 0));
        // the highest first, of the lowest: 'late', ' 7'
        due("feed(late, 4)", 4, x.feed(('l' << 24) | ('a' << 16) | ('t' << 8) | 'e', 4));
        due("feed( 7, 2)", 6, x.feed((99 << 24) | (98 << 16) | (' ' << 8) | '7', 2));
        due("house()", 0, x.house());
        due("late", 7, x.told(0, 3));
        due("a byte above 127 is none", -10, Stages.house(x, "" + (char) 233));
        for (int n = 4; n <= 96; n += 4) {
            due("feed to " + n, n, x.feed(-1, 4));
        }
        due("feed(0, 3)", 99, x.feed(0, 3));
        due("feed(0, 2)", -4, x.feed(0, 2));
        due("feed(0, 4)", -4, x.feed(0, 4));
        due("feed(0, 5), near full", -2, x.feed(0, 5));
        due("count(4)", 99, x.count(4));
        due("feed(0, 1)", 100, x.feed(0, 1));
        due("feed(0, 1), full", -4, x.feed(0, 1));
        due("feed(0, 0), full", 100, x.feed(0, 0));
        due("house()", -10, x.house());
        due("count(4) then", 0, x.count(4));
    }

    static void promise08House() {
        FarVoice x = new FarVoice();
        due("house() of nothing", -10, x.house());
        due("a fault", -17, Stages.house(x, "late 1;"));
        due("count(2)", 0, x.count(2));
        for (int h = 0; h < 5; h++) {
            due("house " + h, h, Stages.house(x, "late " + (h + 2)));
            due("late of it", h + 2, x.told(0, 3));
            due("THE TEXT is empty", 0, x.count(4));
            if (h < 4) {
                due("a fault", -17, Stages.house(x, "late 99x"));
                due("the one that held holds", h + 2, x.told(0, 3));
            }
        }
        Stages.feed(x, "late 1");
        due("a sixth", -4, x.house());
        due("THE TEXT stays", 6, x.count(4));
        Stages.feed(x, "?");
        due("a sixth, with a fault", -4, x.house());
        due("THE TEXT stays", 7, x.count(4));
        due("late stays", 6, x.told(0, 3));
        due("count(2)", 5, x.count(2));
    }

    static void promise08Faults() {
        Object[][] texts = {
            {"ear 3 f>5", -1}, {"eye 12 t=0|l<9&k=6", -1}, {"late 0", -1}, {"late 00", -1},
            {"hears 9 1 0", -1}, {"swap 0 9", -1}, {"e", 1}, {"ex", 1}, {"ea", 2}, {"eay", 2},
            {"ey ", 2}, {"f", 0}, {" late 1", 0}, {"Late 1", 0}, {"lat", 3}, {"late", 4}, {"late1", 4},
            {"late ", 5}, {"late  1", 5}, {"late x", 5}, {"late 1 ", 6}, {"late 123", 7},
            {"late 1;", 7}, {"late 1;;", 7}, {"late 1; late 1", 7}, {"late 1,", 6},
            {"hear 1 1 1", 4}, {"hears 1 2 3", 8}, {"hears 1 1", 9}, {"hears 1 1 12", 11},
            {"hears a 1 1", 6}, {"hears 12 1 1", 7}, {"hears 1 1 x", 10}, {"hears1", 5},
            {"swap 1", 6}, {"swap 1 ", 7}, {"swap 1 :", 7}, {"swap 1 /", 7}, {"swap a 1", 5},
            {"ear 5", 5}, {"ear 5 ", 6}, {"ear 123 f>1", 6}, {"ear 1  f>1", 6}, {"ear 1 q=1", 6},
            {"ear 1 f", 7}, {"ear 1 f?1", 7}, {"ear 1 f >1", 7}, {"ear 1 f>", 8}, {"ear 1 f>>", 8},
            {"ear 1 f>123", 10}, {"ear 1 f>1)", 9}, {"ear 1 f>1|", 10}, {"ear 1 f>1||", 10},
            {"ear 1 f>1&", 10}, {"ear 1 f>1&|", 10}, {"ear 1 f>1 ", 9}, {"ear 1 f>1|f>1;", 14},
            {"ear 1 (f>1", 10}, {"ear 1 (f>1;", 10}, {"ear 1 (f>1)(", 11}, {"ear 1 ()", 7},
            {"ear 1 !f>1&!(f>1|!o<2)", -1}, {"ear 1 !", 7}, {"ear 1 !&", 7}, {"ear 1 f!", 7},
            {"ear 1 ((((f=1))))", -1}, {"ear 1 !!!!f=1", -1}, {"ear 1 !(!(f=1))", -1},
            {"eye 1 (((((f=1)))))", 10}, {"ear 1 !!!!!f=1", 10}, {"ear 1 !(!(!f=1))", 10},
            {"ear 1 !(!((f=1)))", 10}, {"ear 1 ((((f=1)|!f=1)))", -1}, {"ear 1 ((((f=1|!f=1))))", 14},
            {"ear 1 ((((f=1))))|((((o=1))))", -1}, {"ear 1 !!!!f=1&!!!!f=1", -1},
            {"ear 1 ((((f=1)))))", 17}, {"ear 1 f=1;eye 2 o=2;late 3;hears 4 0 4;swap 5 5", -1},
            {"swap : 1", 5}, {"swap / 1", 5}, {"hears : 1 1", 6}, {"hears 1 1 :", 10}, {"late :", 5}, {"late 1/", 6},
            {"ear 0 f>1", -1}, {"eye 00 f>00", -1}, {"swap 9 0", -1}, {"hears  1 1 1", 6}, {"swap  1 1", 5},
            {"ear 1 5", 6}, {"ear 1 <5", 6}, {"ear 1 f5", 7}, {"late 1;late", 11}, {"late 1;eat 2", 9},
            {"swap 1 2;swat 1 2", 12}, {"ear : f>1", 4}, {"ear 1: f>1", 5}, {"ear 1 f>:", 8}, {"swap 1 2;hears 1 1", 18}, {"swap 1 2;x", 9},
        };
        for (Object[] row : texts) {
            due("fault of '" + row[0] + "'", (Integer) row[1], Stages.fault((String) row[0]));
        }
        due("ten clauses", -1, Stages.fault(Stages.repeat("late 1", 10, ";")));
        due("eleven clauses", 69, Stages.fault(Stages.repeat("late 1", 11, ";")));
        due("; behind the tenth", 69, Stages.fault(Stages.repeat("late 1", 10, ";") + ";"));
        String full = "ear 01 " + Stages.repeat("f>1", 23, "|");
        due("a text of 98 bytes", -1, Stages.fault(full));
        due("one of 100, that ends too early", 100, Stages.fault(full + "|f"));
        due("one of 100, whole", -1, Stages.fault(full.replace("01 f>1|", "01 f>12|") + "5"));
    }

    static void promise08TheTextBeforeIsGone() {
        String[][] texts = {
            {"late 123", "lat", "3"}, {"hears 1 1 1", "hears 1 1 ", "10"}, {"swap 3 3", "swap 3", "6"},
            {"ear 1 !f>1", "ear 1 ", "6"}, {"ear 1 f>1", "ear 1 f>", "8"}, {"late 12", "late 1", "-1"},
            {"late 1;late 2", "late 1", "-1"}, {"ear 1 f>1|f", "ear 1 f>1", "-1"}, {"late 12", "l", "1"},
        };
        for (String[] row : texts) {
            FarVoice x = new FarVoice();
            Stages.house(x, row[0]);
            int answer = Stages.house(x, row[1]);
            int fault = answer >= 0 ? -1 : -10 - answer;
            due("fault of '" + row[1] + "' behind '" + row[0] + "'", Integer.parseInt(row[2]), fault);
        }
    }

    static void promise08WhatAFaultReadIsGone() {
        FarVoice x = new FarVoice();
        x.seat(5, 20);
        x.voice(0, 0);
        String text = "hears 0 0 9;hears 0 1 8;hears 7 0 6;swap 0 5;swap 9 4;late 7;ear 9 f>0;eye 9 f>0";
        due("a fault at its end", -10 - text.length() - 1, Stages.house(x, text + ";"));
        due("a house", 0, Stages.house(x, "eye 2 f>0"));
        for (int letter = 0; letter < 10; letter++) {
            for (int what = 0; what < 3; what++) {
                due("told(" + letter + ", " + what + ")", letter, x.told(letter, what));
            }
        }
        due("late", 1, x.told(0, 3));
        due("EAR", 1, x.held(0, 0, 0, 0));
        due("EYE", 3, x.held(0, 0, 0, 1));
    }

    static void promise09Told() {
        FarVoice x = new FarVoice();
        for (int letter = 0; letter < 10; letter++) {
            for (int what = 0; what < 3; what++) {
                due("told(" + letter + ", " + what + ") without a house", letter, x.told(letter, what));
            }
            due("late without a house", 1, x.told(letter, 3));
        }
        due("house", 0, Stages.house(x, "hears 3 0 7;hears 3 1 8;swap 3 9;late 0;hears 3 0 6;swap 0 1;late 44"));
        due("open, by the last", 6, x.told(3, 0));
        due("shut", 8, x.told(3, 1));
        due("swap", 9, x.told(3, 2));
        due("late, the last one's", 44, x.told(3, 3));
        due("swap of 0", 1, x.told(0, 2));
        due("swap of 1", 1, x.told(1, 2));
        due("another letter", 4, x.told(4, 1));
        due("told(-1, 0)", -1, x.told(-1, 0));
        due("told(10, 3)", -1, x.told(10, 3));
        due("told(0, 4)", -1, x.told(0, 4));
        due("told(0, -1)", -1, x.told(0, -1));
        due("the newest house", 1, Stages.house(x, "hears 3 1 1"));
        due("open there", 3, x.told(3, 0));
        due("shut there", 1, x.told(3, 1));
        due("swap there", 3, x.told(3, 2));
        due("late there", 1, x.told(3, 3));
    }

    static void promise19Boxes() {
        FarVoice x = new FarVoice();
        due("boxes(1, 0) without seats", 0, x.boxes(1, 0));
        due("boxes(1, 1)", -5, x.boxes(1, 1));
        due("boxes(1, 2)", 0, x.boxes(1, 2));
        due("boxes(2, 0)", 0, x.boxes(2, 0));
        due("boxes(2, 1)", 1, x.boxes(2, 1));
        x.seat(10, 5);
        due("one seat", 5, x.boxes(1, 0));
        due("two boxes, one seat: the first row", 0, x.boxes(2, 0));
        due("two boxes, one seat: the second", 5, x.boxes(2, 1));
        x.seat(10, 15);
        due("two seats, as far: the first of many", 5, x.boxes(1, 0));
        due("the sum", 100, x.boxes(1, 2));
        x.seat(11, 25);
        due("times how far", 15, x.boxes(1, 0));
        due("the sum", 210, x.boxes(1, 2));
        due("boxes(2, 0)", 5, x.boxes(2, 0));
        due("boxes(2, 1)", 25, x.boxes(2, 1));
        due("boxes(2, 2)", 100, x.boxes(2, 2));
        x.seat(40, 40);
        due("one box", 40, x.boxes(1, 0));
        due("boxes(2, 0) of four", 15, x.boxes(2, 0));
        due("boxes(2, 1) of four", 40, x.boxes(2, 1));
        due("boxes(2, 2) of four", 210, x.boxes(2, 2));
        for (int s = 4; s < 8; s++) {
            x.seat(1, 40);
        }
        due("boxes(2, 2) of eight", 210, x.boxes(2, 2));
        due("boxes(0, 3)", -1, x.boxes(0, 3));
        due("boxes(1, -1)", -1, x.boxes(1, -1));
        due("boxes(0, 0)", -2, x.boxes(0, 0));
        due("boxes(3, 1)", -2, x.boxes(3, 1));
        x.mouth(3);
        due("THE MOUTH does not matter", 15, x.boxes(2, 0));
    }

    static void promise20Slips() {
        FarVoice x = new FarVoice();
        due("slips(-1)", -2, x.slips(-1));
        due("slips(11)", -2, x.slips(11));
        due("slips(10)", 0, x.slips(10));
        due("slips(3)", 10, x.slips(3));
        due("slips(0)", 3, x.slips(0));
    }

    static void promise24Image() {
        FarVoice x = new FarVoice();
        due("image()", 0, x.image());
        Stages.say(x, 1, 2, 3);
        due("image() of three", 3, x.image());
        x.say(-1);
        due("undo() goes to the newest image", 3, x.undo());
        x.say(4);
        due("image() of four", 4, x.image());
        x.say(-1);
        due("undo()", 4, x.undo());
    }

    static void promise25Undo() {
        FarVoice x = new FarVoice();
        due("undo() without one", -3, x.undo());
        x.seat(30, 21);
        x.voice(0, 0);
        x.voice(5, 0);
        Stages.say(x, 3, 4);
        due("house 0", 0, Stages.house(x, "swap 3 8;late 5"));
        x.slips(4);
        x.mouth(22);
        x.jaw(24, 1);
        due("image()", 2, x.image());
        due("house 1", 1, Stages.house(x, "swap 3 9"));
        x.slips(7);
        x.mouth(1);
        x.jaw(2, 6);
        x.say(-1);
        Stages.say(x, 7, 7, 7);
        x.seat(4, 4);
        x.voice(6, 1);
        Stages.feed(x, "late");
        x.tape(0, 1, 3);
        for (int again = 0; again < 2; again++) {
            due("undo()", 2, x.undo());
            due("THE MOUTH", 22, x.count(6));
            due("THE JAW", 24, x.count(7));
            due("its TENTHS", 1, x.held(0, 0, 0, 3));
            due("its TENTHS, late", 1, x.held(0, 0, 3, 3));
            due("SWAP of the house that holds", 8, x.told(3, 2));
            due("late of the house that holds", 5, x.told(3, 3));
            due("the first letter", 3, x.heard(0, 0, 0, 0));
            due("the second letter", 4, x.heard(0, 0, 1, 0));
            due("no third letter", -1, x.heard(0, 0, 2, 0));
            due("odds", 4, x.slips(9));
            due("SEATS stay", 2, x.count(0));
            due("VOICES stay", 3, x.count(3));
            due("HOUSES stay", 2, x.count(2));
            due("THE TEXT stays", 4, x.count(4));
            due("TAPES stay", 0, x.read(0, 2));
            Stages.say(x, 5);
        }
        due("a house of what was fed ahead", 2, Stages.house(x, " 9"));
        due("holds", 9, x.told(0, 3));
        x.undo();
        due("the image's house again", 5, x.told(0, 3));
    }

    static void promise25UndoToNoHouse() {
        FarVoice x = new FarVoice();
        x.image();
        Stages.house(x, "late 9;hears 1 1 2");
        due("undo()", 0, x.undo());
        due("late without a house", 1, x.told(0, 3));
        due("hears without a house", 1, x.told(1, 1));
        due("count(2)", 1, x.count(2));
    }

    static void promise29Count() {
        FarVoice x = new FarVoice();
        x.seat(1, 1);
        x.seat(1, 1);
        Stages.say(x, 1, 2, 3);
        Stages.house(x, "late 1");
        for (int v = 0; v < 4; v++) {
            x.voice(6, v);
        }
        x.feed(0, 4);
        x.feed(0, 1);
        x.act(1, 2, 0);
        x.mouth(11);
        x.jaw(12, 0);
        int[] counts = {2, 3, 1, 4, 5, 12, 11, 12};
        for (int what = 0; what < counts.length; what++) {
            due("count(" + what + ")", counts[what], x.count(what));
        }
        due("count(-1)", -2, x.count(-1));
        due("count(8)", -2, x.count(8));
    }
}
