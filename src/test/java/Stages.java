/** What tests need again and again. */
final class Stages {
    static final long ALL = (1L << 40) - 1;

    private Stages() {
    }

    /** One SEAT, 5 far before THE MOUTH, and one VOICE of that KIND. */
    static FarVoice one(int kind, int v) {
        FarVoice x = new FarVoice();
        x.seat(5, 20);
        x.voice(kind, v);
        return x;
    }

    /**
     * SEATS 0, 1, 2 with EAR and EYE 1 and 1, 5 and 1, 1 and 10, the last of them beyond 20; VOICES of KINDS
     * VOICE, BOXED and FAR; THE JAW 6 off, moving in all TENTHS. The first is JOINED by SEATS 1 and 2, the
     * second by all, the third by none. 3 is said twice: no LETTER is heard as 3, but from afar.
     */
    static FarVoice three() {
        FarVoice x = new FarVoice();
        x.seat(5, 20);
        x.seat(15, 20);
        x.seat(30, 20);
        x.voice(0, 9);
        x.voice(2, 9);
        x.voice(3, 9);
        house(x, "late 0;ear 4 f=15;eye 9 f=30;hears 3 0 4");
        say(x, 3, 3);
        x.jaw(26, ALL);
        return x;
    }

    /** Feeds a text, four bytes a call, for an object has no more than 512; answers what the last call answered. */
    static int feed(FarVoice x, String text) {
        int last = x.count(4);
        for (int from = 0; from < text.length(); from += 4) {
            int n = Math.min(4, text.length() - from);
            int bytes = 0;
            for (int k = 0; k < n; k++) {
                bytes = bytes << 8 | text.charAt(from + k);
            }
            last = x.feed(bytes, n);
        }
        return last;
    }

    static int house(FarVoice x, String text) {
        feed(x, text);
        return x.house();
    }

    /** The FAULT of a text on a new object; -1 if it is a HOUSE. */
    static int fault(String text) {
        int answer = house(new FarVoice(), text);
        return answer == 0 ? -1 : -10 - answer;
    }

    /** The bytes that can come behind a text, the least first: those that are not the FAULT there. */
    static String next(String text) {
        StringBuilder all = new StringBuilder();
        for (char sign = 0; sign < 256; sign++) {
            if (fault(text + sign) != text.length()) {
                all.append(sign);
            }
        }
        return all.toString();
    }

    static void say(FarVoice x, int... letters) {
        for (int letter : letters) {
            x.say(letter);
        }
    }

    /** So many LETTERS, all that one. */
    static void sayTimes(FarVoice x, int letter, int n) {
        for (int i = 0; i < n; i++) {
            x.say(letter);
        }
    }

    static String repeat(String part, int n, String between) {
        StringBuilder all = new StringBuilder();
        for (int i = 0; i < n; i++) {
            all.append(i == 0 ? "" : between).append(part);
        }
        return all.toString();
    }
}
