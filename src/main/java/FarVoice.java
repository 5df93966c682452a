/**
 * A voice from elsewhere: where a mouth speaks and a jaw moves, what each seat holds and hears of
 * a voice, and what follows from it. The document is ../shared/DOC.md; its words in capitals
 * (SEAT, HOUSE, JOINED ..) are meant as it tells them.
 */
public final class FarVoice {
    public static final int NONE = -1, BAD = -2, STATE = -3, FULL = -4;
    public static final long NO = Long.MIN_VALUE;

    private static final int NO_ANSWER = -5, FAULTS_FROM = -10;
    private static final int NOTHING = -11, CAST = -12, PLACE = -13, SIZE = -14;

    private static final int LAST_PLACE = 40, LAST_TENTH = 39, FARTHEST = 40;
    private static final int MOST_SEATS = 8, MOST_LETTERS = 20, MOST_BYTES = 100, MOST_HOUSES = 5;
    private static final int MOST_VOICES = 10, MOST_TAPES = 6;
    private static final int LETTERS = 10, LAST_SHUT = 2, NO_LETTER = 99, LIPS_SEEN_UP_TO = 20;
    private static final int MOST_LATER = 20, MOST_SLIPPING = 15;
    private static final long ALL_TENTHS = (1L << 40) - 1;

    private static final int EAR = 0, EYE = 1, LATE = 2, HEARS = 3, SWAP = 4;
    private static final int OPEN = 0, SHUT = 1;

    private static final int PLAIN = 0, NEAR = 1, BOXED = 2, FAR = 3, DOUBLED = 4, SWAPPED = 5, DUBBED = 6;
    private static final int[] KIND_ABOVE = {-1, PLAIN, PLAIN, PLAIN, NEAR, BOXED, FAR};

    private static final int BYTES = 0, SHORTS = 1, INTS = 2, LONGS = 3, BOOLEANS = 4;

    private final Stage stage = new Stage();
    private final Stage image = new Stage();
    private boolean imageTaken;
    private final int[] far = new int[MOST_SEATS];
    private final int[] side = new int[MOST_SEATS];
    private int seats;
    private final char[] text = new char[MOST_BYTES];
    private int textLength;
    // the HOUSE before the first stands for "no HOUSE holds"
    private final House[] houses = new House[MOST_HOUSES + 1];
    private int houseCount;
    private final Reader reader = new Reader();
    private final Voice[] voices = new Voice[MOST_VOICES];
    private int voiceCount;
    private final Acting acting = new Acting();
    private final Tape[] tapes = new Tape[MOST_TAPES];
    // one for all calls: what they ask is asked often
    private final Look look = new Look();

    public FarVoice() {
        for (int h = 0; h < houses.length; h++) {
            houses[h] = new House();
        }
        for (int t = 0; t < tapes.length; t++) {
            tapes[t] = new Tape();
        }
    }

    // ---- the stage, seats, houses

    public int mouth(int place) {
        if (!isPlace(place)) {
            return NONE;
        }
        int before = stage.mouth;
        stage.mouth = place;
        return before;
    }

    public int jaw(int place, long tenths) {
        if (!isPlace(place)) {
            return NONE;
        }
        if (tenths < 0 || tenths > ALL_TENTHS) {
            return BAD;
        }
        int before = stage.jaw;
        stage.jaw = place;
        stage.moving = tenths;
        return before;
    }

    public int seat(int far, int side) {
        if (far < 1 || far > FARTHEST) {
            return BAD;
        }
        if (!isPlace(side)) {
            return NONE;
        }
        if (seats >= MOST_SEATS) {
            return FULL;
        }
        this.far[seats] = far;
        this.side[seats] = side;
        seats++;
        return seats - 1;
    }

    public int of(int seat, int what) {
        if (!isSeat(seat) || what < 0 || what > 1) {
            return NONE;
        }
        return what == 0 ? far[seat] : side[seat];
    }

    public int say(int letter) {
        if (letter < -1 || letter >= LETTERS) {
            return NONE;
        }
        if (letter == -1) {
            stage.letters = 0;
            return 0;
        }
        if (stage.letters >= MOST_LETTERS) {
            return FULL;
        }
        stage.words[stage.letters] = letter;
        stage.letters++;
        return stage.letters;
    }

    public int feed(int bytes, int n) {
        if (n < 0 || n > 4) {
            return BAD;
        }
        if (textLength + n > MOST_BYTES) {
            return FULL;
        }
        for (int k = n - 1; k >= 0; k--) {
            text[textLength] = (char) ((bytes >>> (8 * k)) & 255);
            textLength++;
        }
        return textLength;
    }

    public int house() {
        if (houseCount >= MOST_HOUSES) {
            return FULL;
        }
        int fault = reader.faultOf(text, textLength, houses[houseCount + 1]);
        textLength = 0;
        if (fault >= 0) {
            return FAULTS_FROM - fault;
        }
        houseCount++;
        stage.house = houseCount;
        return houseCount - 1;
    }

    public int told(int letter, int what) {
        if (!isLetter(letter)) {
            return NONE;
        }
        switch (what) {
            case 0: return holding().soundOf(letter, OPEN);
            case 1: return holding().soundOf(letter, SHUT);
            case 2: return holding().swapOf(letter);
            case 3: return holding().late;
            default: return NONE;
        }
    }

    // ---- voices

    public int voice(int kind, int v) {
        if (kind < PLAIN || kind > DUBBED) {
            return NONE;
        }
        if (v < 0 || v > 9) {
            return BAD;
        }
        if (voiceCount >= MOST_VOICES) {
            return FULL;
        }
        voices[voiceCount] = new Voice(voiceCount, kind, v);
        voiceCount++;
        return voiceCount - 1;
    }

    public int held(int voice, int seat, int tenth, int what) {
        Voice speaker = voiceAt(voice);
        if (speaker == null || !isSeat(seat) || !isTenth(tenth)) {
            return NONE;
        }
        Look seen = lookAt(speaker, seat, tenth);
        switch (what) {
            case 0: return seen.ear;
            case 1: return seen.eye;
            case 2: return seen.sounds;
            case 3: return seen.joined ? 1 : 0;
            case 4: return seen.held;
            case 5: return seen.caught ? 1 : 0;
            default: return NONE;
        }
    }

    public int heard(int voice, int seat, int i, int what) {
        Voice speaker = voiceAt(voice);
        if (speaker == null || !isSeat(seat) || !isSaid(i)) {
            return NONE;
        }
        switch (what) {
            case 0: return letterSaid(speaker, i);
            case 1: return letterHeard(speaker, seat, i);
            case 2: return isRight(speaker, seat, i) ? 1 : 0;
            default: return NONE;
        }
    }

    public int houseful(int voice, int tenth) {
        Voice speaker = voiceAt(voice);
        if (speaker == null || (tenth != -1 && !isTenth(tenth))) {
            return NONE;
        }
        int bits = 0;
        for (int s = 0; s < seats; s++) {
            boolean caught = tenth == -1 ? isAlwaysCaught(speaker, s) : lookAt(speaker, s, tenth).caught;
            if (caught) {
                bits |= 1 << s;
            }
        }
        return bits;
    }

    public int drawn(int voice, int seat, int tenth) {
        Voice speaker = voiceAt(voice);
        if (speaker == null || !isSeat(seat) || !isTenth(tenth)) {
            return NONE;
        }
        if (!canJoin(speaker, tenth) || !isMoving(speaker.movingOf(stage.moving), tenth)) {
            return NO_ANSWER;
        }
        int reach = lookAt(speaker, seat, tenth).reach();
        for (int jaw = LAST_PLACE; jaw >= stage.mouth; jaw--) {
            if (Math.abs(jaw - speaker.soundsAt(stage.mouth, jaw)) <= reach) {
                return jaw - stage.mouth;
            }
        }
        return NO_ANSWER;
    }

    public int latest(int voice, int seat) {
        Voice speaker = voiceAt(voice);
        if (speaker == null || !isSeat(seat)) {
            return NONE;
        }
        int tenths = stage.tenthsSaidIn();
        for (int t = 0; t < tenths; t++) {
            if (!lookAt(speaker, seat, t).inReach) {
                return NO_ANSWER;
            }
        }
        for (int n = MOST_LATER; n >= 0; n--) {
            if (isMovingThroughout(speaker.movingOf(later(stage.moving, n)), tenths)) {
                return n;
            }
        }
        return NO_ANSWER;
    }

    public int wrong(int voice, int seat) {
        Voice speaker = voiceAt(voice);
        if (speaker == null || !isSeat(seat)) {
            return NONE;
        }
        int wrongs = 0;
        for (int i = 0; i < stage.letters; i++) {
            if (!isRight(speaker, seat, i)) {
                wrongs++;
            }
        }
        return wrongs;
    }

    public int swap(int voice, int i, int what) {
        Voice speaker = voiceAt(voice);
        if (speaker == null || !isSaid(i) || what < 0 || what > 1) {
            return NONE;
        }
        int joined = joinedSeats(speaker, 2 * i);
        int best = 0;
        int most = 0;
        for (int letter = 0; letter < LETTERS; letter++) {
            int right = seatsHearing(stage.words[i], letter, joined);
            if (right > most) {
                most = right;
                best = letter;
            }
        }
        return what == 0 ? best : most;
    }

    public int changed(int voice, int seat) {
        Voice speaker = voiceAt(voice);
        if (speaker == null || !isSeat(seat)) {
            return NONE;
        }
        int changes = 0;
        for (int i = 0; i < stage.letters; i++) {
            if (!isRight(speaker, seat, i) && !canBeHeard(speaker, seat, i)) {
                changes++;
            }
        }
        return changes;
    }

    // ---- boxes, slips, turns

    public int boxes(int k, int what) {
        if (what < 0 || what > 2) {
            return NONE;
        }
        if (k < 1 || k > 2) {
            return BAD;
        }
        if (k == 1 && what == 1) {
            return NO_ANSWER;
        }
        int places = LAST_PLACE + 1;
        int best = bestBoxes(k);
        switch (what) {
            case 0: return best / places % places;
            case 1: return best % places;
            default: return best / (places * places);
        }
    }

    public int slips(int n) {
        if (n < 0 || n > 10) {
            return BAD;
        }
        int before = stage.slips;
        stage.slips = n;
        return before;
    }

    public long sure(int voice, int seat, int tenth, int part) {
        Voice speaker = voiceAt(voice);
        if (speaker == null || !isSeat(seat) || !isTenth(tenth) || part < 0 || part > 1) {
            return NO;
        }
        int chances = Long.bitCount(movingAround(speaker.movingOf(stage.moving), tenth));
        if (chances > MOST_SLIPPING) {
            return NO;
        }
        return partOfSure(lookAt(speaker, seat, tenth).inReach ? chances : 0, part);
    }

    public int changes(int a, int b, int seat, int n) {
        Voice first = voiceAt(a);
        Voice second = voiceAt(b);
        if (first == null || second == null || !isSeat(seat)) {
            return NONE;
        }
        if (!isPlace(n)) {
            return BAD;
        }
        int turns = 0;
        int before = stage.letters == 0 ? 0 : lookAt(first, seat, 0).held;
        for (int i = 1; i < stage.letters; i++) {
            int now = lookAt(i % 2 == 0 ? first : second, seat, 2 * i).held;
            if (Math.abs(now - before) > n) {
                turns++;
            }
            before = now;
        }
        return turns;
    }

    // ---- judging, the image, acts, tapes

    public int judge(int tape, int i, int voice, int seat) {
        Voice speaker = voiceAt(voice);
        if (!isTape(tape) || speaker == null || !isSeat(seat)) {
            return NONE;
        }
        Tape row = tapes[tape];
        if (row.isRow() && row.sort != SHORTS) {
            return CAST;
        }
        int tenths = stage.tenthsSaidIn();
        for (int t = 0; t < tenths; t++) {
            // at t 0 this is i itself, so that no greater i + t can wrap
            if (!row.has(i + t)) {
                return 100 + t;
            }
            if (row.items[i + t] != lookAt(speaker, seat, t).held) {
                return t;
            }
        }
        return NO_ANSWER;
    }

    public int image() {
        image.become(stage);
        imageTaken = true;
        return stage.letters;
    }

    public int undo() {
        if (!imageTaken) {
            return STATE;
        }
        stage.become(image);
        return stage.letters;
    }

    public int act(int voice, int act, int x) {
        Voice speaker = voiceAt(voice);
        acting.forget();
        if (speaker == null || act < 0 || act > 2) {
            return 0;
        }
        return acting.run(speaker, act, x);
    }

    public int trace(int i) {
        if (i < 0 || i >= acting.kept()) {
            return NONE;
        }
        return acting.bodies[i];
    }

    public int taken(int voice, int k) {
        if (k < PLAIN || k > DUBBED) {
            return BAD;
        }
        Voice speaker = voiceAt(voice);
        if (speaker == null) {
            return NOTHING;
        }
        return speaker.isOf(k) ? speaker.kind : CAST;
    }

    public int count(int what) {
        switch (what) {
            case 0: return seats;
            case 1: return stage.letters;
            case 2: return houseCount;
            case 3: return voiceCount;
            case 4: return textLength;
            case 5: return acting.ran;
            case 6: return stage.mouth;
            case 7: return stage.jaw;
            default: return BAD;
        }
    }

    public int tape(int tape, int sort, int n) {
        if (!isTape(tape)) {
            return NONE;
        }
        if (sort < Tape.HOLDS_NOTHING || sort > BOOLEANS) {
            return BAD;
        }
        if (sort == Tape.HOLDS_NOTHING) {
            tapes[tape].lay(sort, 0);
            return 1;
        }
        if (n > Tape.MOST) {
            return BAD;
        }
        if (n < 0) {
            return SIZE;
        }
        tapes[tape].lay(sort, n);
        return 1;
    }

    public int item(int tape, int i, long v) {
        if (!isTape(tape)) {
            return NONE;
        }
        Tape row = tapes[tape];
        if (!row.isRow()) {
            return NOTHING;
        }
        if (!row.has(i)) {
            return PLACE;
        }
        row.put(i, v);
        return 1;
    }

    public long read(int tape, int i) {
        if (!isTape(tape) || !tapes[tape].has(i)) {
            return NO;
        }
        return tapes[tape].items[i];
    }

    public int shift(int tape, int i, int other, int j, int n) {
        if (!isTape(tape) || !isTape(other)) {
            return NONE;
        }
        Tape from = tapes[tape];
        Tape to = tapes[other];
        if (!from.isRow() || !to.isRow()) {
            return NOTHING;
        }
        if (from.sort != to.sort) {
            return CAST;
        }
        if (!from.hasRun(i, n) || !to.hasRun(j, n)) {
            return PLACE;
        }
        System.arraycopy(from.items, i, to.items, j, n);
        return n;
    }

    // ---- which numbers there are

    private static boolean isPlace(int place) {
        return place >= 0 && place <= LAST_PLACE;
    }

    private static boolean isTenth(int tenth) {
        return tenth >= 0 && tenth <= LAST_TENTH;
    }

    private static boolean isLetter(int letter) {
        return letter >= 0 && letter < LETTERS;
    }

    private static boolean isTape(int tape) {
        return tape >= 0 && tape < MOST_TAPES;
    }

    private boolean isSeat(int seat) {
        return seat >= 0 && seat < seats;
    }

    private boolean isSaid(int i) {
        return i >= 0 && i < stage.letters;
    }

    /** The VOICE of that number; null if there is none. */
    private Voice voiceAt(int voice) {
        return voice >= 0 && voice < voiceCount ? voices[voice] : null;
    }

    private House holding() {
        return houses[stage.house];
    }

    // ---- where a SEAT holds a VOICE to be

    /** The one Look holds what comes of this until the next look. */
    private Look lookAt(Voice speaker, int seat, int tenth) {
        int off = Math.abs(side[seat] - stage.mouth);
        look.ask(far[seat], off, speaker.kind, stage.letterIn(tenth), tenth);
        look.ear = speaker.earOf(holding().unsure(EAR, look.facts));
        look.eye = holding().unsure(EYE, look.facts);
        look.sounds = speaker.soundsAt(stage.mouth, stage.jaw);
        look.inReach = canJoin(speaker, tenth) && Math.abs(stage.jaw - look.sounds) <= look.reach();
        look.joined = look.inReach && isMoving(speaker.movingOf(stage.moving), tenth);
        look.holdBetween(stage.mouth, stage.jaw);
        return look;
    }

    /** Whether the VOICE could be JOINED in that TENTH, wherever THE JAW is and however it moves. */
    private boolean canJoin(Voice speaker, int tenth) {
        return tenth < stage.tenthsSaidIn() && !speaker.isApartIn(tenth);
    }

    private static long later(long moving, int tenths) {
        return (moving << tenths) & ALL_TENTHS;
    }

    /** Those of the TENTHS that are no more than late ahead of a TENTH or behind it. */
    private long movingAround(long moving, int tenth) {
        int late = holding().late;
        int first = Math.max(0, tenth - late);
        int last = Math.min(LAST_TENTH, tenth + late);
        return (moving >>> first) & ((1L << (last - first + 1)) - 1);
    }

    private boolean isMoving(long moving, int tenth) {
        return movingAround(moving, tenth) != 0;
    }

    private boolean isMovingThroughout(long moving, int tenths) {
        for (int t = 0; t < tenths; t++) {
            if (!isMoving(moving, t)) {
                return false;
            }
        }
        return true;
    }

    private boolean isAlwaysCaught(Voice speaker, int seat) {
        int tenths = stage.tenthsSaidIn();
        for (int t = 0; t < tenths; t++) {
            if (!lookAt(speaker, seat, t).caught) {
                return false;
            }
        }
        return true;
    }

    private int joinedSeats(Voice speaker, int tenth) {
        int bits = 0;
        for (int s = 0; s < seats; s++) {
            if (lookAt(speaker, s, tenth).joined) {
                bits |= 1 << s;
            }
        }
        return bits;
    }

    // ---- what a SEAT hears

    private int letterSaid(Voice speaker, int i) {
        int letter = stage.words[i];
        return speaker.kind == SWAPPED ? holding().swapOf(letter) : letter;
    }

    /** What a SEAT hears if that LETTER is SAID. */
    private int soundAt(int seat, int said, boolean joined) {
        if (joined) {
            return holding().soundOf(said, OPEN);
        }
        if (far[seat] <= LIPS_SEEN_UP_TO) {
            return holding().soundOf(said, said <= LAST_SHUT ? SHUT : OPEN);
        }
        return said;
    }

    private int letterHeard(Voice speaker, int seat, int i) {
        return soundAt(seat, letterSaid(speaker, i), lookAt(speaker, seat, 2 * i).joined);
    }

    private boolean isRight(Voice speaker, int seat, int i) {
        return letterHeard(speaker, seat, i) == stage.words[i];
    }

    /** Whether there is a LETTER that, SAID for the i-th, is HEARD as it. */
    private boolean canBeHeard(Voice speaker, int seat, int i) {
        boolean joined = lookAt(speaker, seat, 2 * i).joined;
        for (int letter = 0; letter < LETTERS; letter++) {
            if (soundAt(seat, letter, joined) == stage.words[i]) {
                return true;
            }
        }
        return false;
    }

    /** How many SEATS hear the one LETTER if the other is SAID; those JOINED as bits. */
    private int seatsHearing(int letter, int said, int joined) {
        int right = 0;
        for (int s = 0; s < seats; s++) {
            if (soundAt(s, said, (joined >> s & 1) != 0) == letter) {
                right++;
            }
        }
        return right;
    }

    // ---- boxes and slips

    private int boxesSum(int first, int second) {
        int sum = 0;
        for (int s = 0; s < seats; s++) {
            int off = Math.min(Math.abs(first - side[s]), Math.abs(second - side[s]));
            sum += off * far[s];
        }
        return sum;
    }

    /**
     * The sum and both PLACES in one number (one box stands twice in it): the least of these has
     * the least sum, and of several the first row.
     */
    private int bestBoxes(int k) {
        int places = LAST_PLACE + 1;
        int best = Integer.MAX_VALUE;
        for (int first = 0; first <= LAST_PLACE; first++) {
            int from = k == 1 ? first : first + 1;
            int to = k == 1 ? first : LAST_PLACE;
            for (int second = from; second <= to; second++) {
                int row = (boxesSum(first, second) * places + first) * places + second;
                best = Math.min(best, row);
            }
        }
        return best;
    }

    /** 1 less the odds that THE JAW slips in all of so many TENTHS. */
    private long partOfSure(int chances, int part) {
        int above = stage.slips;
        int below = 10;
        // with the odds in lowest terms their powers, and 1 less these, are so too
        for (int divisor = 2; divisor <= 5; divisor += 3) {
            if (above % divisor == 0) {
                above /= divisor;
                below /= divisor;
            }
        }
        long allSlip = 1;
        long all = 1;
        for (int n = 0; n < chances; n++) {
            allSlip *= above;
            all *= below;
        }
        return part == 0 ? all - allSlip : all;
    }

    /** What THE IMAGE holds. */
    private static final class Stage {
        int mouth = 20;
        int jaw = 26;
        long moving;
        final int[] words = new int[MOST_LETTERS];
        int letters;
        int slips;
        // 0: none; else one more than the number of the HOUSE
        int house;

        void become(Stage other) {
            mouth = other.mouth;
            jaw = other.jaw;
            moving = other.moving;
            System.arraycopy(other.words, 0, words, 0, MOST_LETTERS);
            letters = other.letters;
            slips = other.slips;
            house = other.house;
        }

        int tenthsSaidIn() {
            return 2 * letters;
        }

        int letterIn(int tenth) {
            return tenth < tenthsSaidIn() ? words[tenth / 2] : NO_LETTER;
        }
    }

    /** What a SEAT holds of a VOICE in a TENTH, and what its HOUSE was asked for that. */
    private static final class Look {
        // in the order of Reader.ASKED
        final int[] facts = new int[5];
        int ear;
        int eye;
        int sounds;
        // JOINED, if only THE JAW moves near that TENTH
        boolean inReach;
        boolean joined;
        int held;
        boolean caught;

        void ask(int far, int off, int kind, int letter, int tenth) {
            facts[0] = far;
            facts[1] = off;
            facts[2] = kind;
            facts[3] = letter;
            facts[4] = tenth;
        }

        int reach() {
            return ear + eye;
        }

        void holdBetween(int mouth, int jaw) {
            int reach = reach();
            held = joined && reach > 0 ? (sounds * eye + jaw * ear) / reach : sounds;
            caught = Math.abs(held - jaw) < Math.abs(held - mouth);
        }
    }

    /** A HOUSE: its ear and eye CLAUSES as rows, of the others what the last such tells. */
    private static final class House {
        static final int MOST_CLAUSES = 10, MOST_UNSURE = 60;
        // the steps of an E, each behind what it joins; a TEST is TESTS + its number
        static final int NOT = 0, AND = 1, OR = 2, TESTS = 3;
        static final int NUMBERS = 100, RELATIONS = 3;

        final int[] sounds = new int[2 * LETTERS];
        final int[] swaps = new int[LETTERS];
        int late;
        final int[] senses = new int[MOST_CLAUSES];
        final int[] amounts = new int[MOST_CLAUSES];
        final int[] ends = new int[MOST_CLAUSES];
        int clauses;
        final int[] steps = new int[MOST_BYTES];
        int stepCount;

        House() {
            clear();
        }

        void clear() {
            for (int letter = 0; letter < LETTERS; letter++) {
                sounds[letter] = letter;
                sounds[LETTERS + letter] = letter;
                swaps[letter] = letter;
            }
            late = 1;
            clauses = 0;
            stepCount = 0;
        }

        int soundOf(int letter, int lips) {
            return sounds[lips * LETTERS + letter];
        }

        int swapOf(int letter) {
            return swaps[letter];
        }

        void addStep(int step) {
            if (stepCount < steps.length) {
                steps[stepCount] = step;
                stepCount++;
            }
        }

        /** The steps added since the last such CLAUSE are the E of this one. */
        void addClause(int sense, int amount) {
            if (clauses < MOST_CLAUSES) {
                senses[clauses] = sense;
                amounts[clauses] = amount;
                ends[clauses] = stepCount;
                clauses++;
            }
        }

        int unsure(int sense, int[] facts) {
            int sum = 1;
            for (int c = 0; c < clauses; c++) {
                if (senses[c] == sense && isTrue(c, facts)) {
                    sum += amounts[c];
                }
            }
            return Math.min(MOST_UNSURE, sum);
        }

        private boolean isTrue(int clause, int[] facts) {
            // truths as bits, the newest lowest: four ( or ! leave a dozen at most open at once
            int truths = 0;
            for (int s = clause == 0 ? 0 : ends[clause - 1]; s < ends[clause]; s++) {
                int newest = truths & 1;
                switch (steps[s]) {
                    case NOT: truths ^= 1; break;
                    case AND: truths = (truths >> 1) & (newest | ~1); break;
                    case OR: truths = (truths >> 1) | newest; break;
                    default: truths = truths << 1 | (passes(steps[s] - TESTS, facts) ? 1 : 0); break;
                }
            }
            return (truths & 1) != 0;
        }

        private static int testStep(int asked, int relation, int number) {
            return TESTS + (asked * RELATIONS + relation) * NUMBERS + number;
        }

        private static boolean passes(int test, int[] facts) {
            int asked = test / (NUMBERS * RELATIONS);
            if (asked < 0 || asked >= facts.length) {
                return false;
            }
            int number = test % NUMBERS;
            switch (test / NUMBERS % RELATIONS) {
                case 0: return facts[asked] < number;
                case 1: return facts[asked] == number;
                default: return facts[asked] > number;
            }
        }
    }

    /** Reads THE TEXT: where a reading ends without success, there the FAULT is. */
    private static final class Reader {
        static final String ASKED = "foklt", RELATIONS = "<=>";
        static final int MOST_WITHIN = 4;

        private char[] text;
        private int length;
        private int at;
        private House house;

        /** Makes the HOUSE what the text tells; answers the FAULT, or -1 without one. */
        int faultOf(char[] bytes, int n, House empty) {
            text = bytes;
            length = Math.min(n, bytes.length);
            at = 0;
            house = empty;
            house.clear();
            for (int clause = 1; clause <= House.MOST_CLAUSES; clause++) {
                if (!readClause()) {
                    return at;
                }
                if (at >= length) {
                    return -1;
                }
                if (clause == House.MOST_CLAUSES || !skip(';')) {
                    return at;
                }
            }
            return at;
        }

        private boolean readClause() {
            int word = readWord();
            switch (word) {
                case LATE: return readLate();
                case HEARS: return readHears();
                case SWAP: return readSwap();
                default: break;
            }
            if (word < 0 || !skip(' ')) {
                return false;
            }
            int amount = readNumber();
            if (amount < 0 || !skip(' ') || !readAny(0)) {
                return false;
            }
            house.addClause(word, amount);
            return true;
        }

        private static String wordOf(int word) {
            switch (word) {
                case EAR: return "ear";
                case EYE: return "eye";
                case LATE: return "late";
                case HEARS: return "hears";
                default: return "swap";
            }
        }

        /** Goes as far as any word goes; -1: none to its end. */
        private int readWord() {
            int most = 0;
            for (int word = EAR; word <= SWAP; word++) {
                String name = wordOf(word);
                int same = sameAs(name);
                if (same == name.length()) {
                    at += same;
                    return word;
                }
                most = Math.max(most, same);
            }
            at += most;
            return -1;
        }

        private int sameAs(String name) {
            for (int k = 0; k < name.length(); k++) {
                if (at + k >= length || text[at + k] != name.charAt(k)) {
                    return k;
                }
            }
            return name.length();
        }

        private boolean readLate() {
            if (!skip(' ')) {
                return false;
            }
            int late = readNumber();
            if (late < 0) {
                return false;
            }
            house.late = late;
            return true;
        }

        private boolean readHears() {
            int letter = readPart(LETTERS - 1);
            int lips = letter < 0 ? -1 : readPart(SHUT);
            int sound = lips < 0 ? -1 : readPart(LETTERS - 1);
            if (sound < 0) {
                return false;
            }
            house.sounds[lips * LETTERS + letter] = sound;
            return true;
        }

        private boolean readSwap() {
            int letter = readPart(LETTERS - 1);
            int other = letter < 0 ? -1 : readPart(LETTERS - 1);
            if (other < 0) {
                return false;
            }
            house.swaps[letter] = other;
            return true;
        }

        /** E: a row of T with | between. */
        private boolean readAny(int within) {
            if (!readAll(within)) {
                return false;
            }
            for (int n = 0; n < length && skip('|'); n++) {
                if (!readAll(within)) {
                    return false;
                }
                house.addStep(House.OR);
            }
            return true;
        }

        /** T: a row of F with & between. */
        private boolean readAll(int within) {
            if (!readFactor(within)) {
                return false;
            }
            for (int n = 0; n < length && skip('&'); n++) {
                if (!readFactor(within)) {
                    return false;
                }
                house.addStep(House.AND);
            }
            return true;
        }

        private boolean readFactor(int within) {
            if (at >= length || (text[at] != '(' && text[at] != '!')) {
                return readTest();
            }
            if (within >= MOST_WITHIN) {
                return false;
            }
            if (skip('(')) {
                return readAny(within + 1) && skip(')');
            }
            at++;
            if (!readFactor(within + 1)) {
                return false;
            }
            house.addStep(House.NOT);
            return true;
        }

        private boolean readTest() {
            int asked = readOneOf(ASKED);
            int relation = asked < 0 ? -1 : readOneOf(RELATIONS);
            int number = relation < 0 ? -1 : readNumber();
            if (number < 0) {
                return false;
            }
            house.addStep(House.testStep(asked, relation, number));
            return true;
        }

        private boolean skip(char sign) {
            if (at >= length || text[at] != sign) {
                return false;
            }
            at++;
            return true;
        }

        /** Which of the signs the next byte is; -1: none. */
        private int readOneOf(String signs) {
            int found = at >= length ? -1 : signs.indexOf(text[at]);
            if (found >= 0) {
                at++;
            }
            return found;
        }

        private int readFigure(int most) {
            if (at >= length || text[at] < '0' || text[at] > '0' + most) {
                return -1;
            }
            at++;
            return text[at - 1] - '0';
        }

        private int readPart(int most) {
            return skip(' ') ? readFigure(most) : -1;
        }

        /** One figure or two; -1: none. */
        private int readNumber() {
            int number = 0;
            int figures = 0;
            while (figures < 2 && at < length && text[at] >= '0' && text[at] <= '9') {
                number = 10 * number + text[at] - '0';
                at++;
                figures++;
            }
            return figures == 0 ? -1 : number;
        }
    }

    private static final class Voice {
        final int number;
        final int kind;
        final int v;

        Voice(int number, int kind, int v) {
            this.number = number;
            this.kind = kind;
            this.v = v;
        }

        /** Whether it is of that KIND or of one under it. */
        boolean isOf(int wanted) {
            int above = kind;
            for (int step = 0; step < KIND_ABOVE.length && above >= 0; step++) {
                if (above == wanted) {
                    return true;
                }
                above = KIND_ABOVE[above];
            }
            return false;
        }

        int soundsAt(int mouth, int jaw) {
            if (isOf(NEAR)) {
                return jaw < mouth ? Math.max(jaw, mouth - v) : Math.min(jaw, mouth + v);
            }
            if (isOf(FAR)) {
                return jaw > mouth ? Math.max(0, mouth - v) : Math.min(LAST_PLACE, mouth + v);
            }
            return mouth;
        }

        int earOf(int told) {
            if (isOf(BOXED)) {
                return told + v;
            }
            return isOf(FAR) ? 2 * told : told;
        }

        long movingOf(long moving) {
            return kind == DUBBED ? later(moving, v) : moving;
        }

        /** Whether a DOUBLED voice is never JOINED in that TENTH. */
        boolean isApartIn(int tenth) {
            return kind == DOUBLED && v != 0 && tenth % v == 0;
        }
    }

    /** Runs the bodies of an ACT, and keeps which ran. */
    private static final class Acting {
        static final int HEARING = 0, SEEING = 1, TELLING = 2, ACTS = 3;
        static final int MOST_KEPT = 20, MOST_DEEP = 30;
        // by KIND and act; 0: the KIND has no body of its own
        static final int[] BODY_OF = {
            10, 11, 12,
            0, 20, 0,
            30, 0, 0,
            0, 0, 40,
            50, 51, 0,
            0, 0, 60,
            71, 70, 0,
        };

        final int[] bodies = new int[MOST_KEPT];
        int ran;
        private Voice actor;

        void forget() {
            ran = 0;
        }

        int kept() {
            return Math.min(ran, MOST_KEPT);
        }

        int run(Voice voice, int act, int x) {
            actor = voice;
            return runFrom(voice.kind, act, x, 0);
        }

        /** Runs the body of that KIND, or of the next above that has one. */
        private int runFrom(int kind, int act, int x, int deep) {
            if (deep > MOST_DEEP) {
                return 0;
            }
            int body = bodyFrom(kind, act);
            if (ran < MOST_KEPT) {
                bodies[ran] = body;
            }
            ran++;
            return runBody(body, x, deep + 1);
        }

        private static int bodyFrom(int kind, int act) {
            int above = kind;
            for (int step = 0; step < KIND_ABOVE.length && above >= 0; step++) {
                int body = BODY_OF[above * ACTS + act];
                if (body != 0) {
                    return body;
                }
                above = KIND_ABOVE[above];
            }
            return 0;
        }

        private int runBody(int body, int x, int deep) {
            int own = actor.kind;
            switch (body) {
                case 10: return x + actor.number;
                case 11: return runFrom(own, HEARING, x, deep) - actor.v;
                case 12: return runFrom(own, SEEING, x, deep) * 2;
                case 20: return runFrom(PLAIN, SEEING, x, deep) ^ 6;
                case 30: return runFrom(PLAIN, HEARING, x * 3, deep);
                case 40: return runFrom(PLAIN, TELLING, x, deep) + runFrom(own, SEEING, 1, deep);
                case 50: return -runFrom(NEAR, HEARING, x, deep);
                case 51: return runFrom(NEAR, SEEING, x + 1, deep);
                case 60: return runFrom(BOXED, TELLING, x - actor.number, deep);
                case 70: return runFrom(FAR, SEEING, x, deep) + runFrom(FAR, HEARING, 2, deep);
                case 71: return runFrom(FAR, HEARING, x, deep) ^ actor.v;
                default: return 0;
            }
        }
    }

    /** A TAPE: its items as longs, each cut to what its sort can hold. */
    private static final class Tape {
        static final int HOLDS_NOTHING = -1, MOST = 60;

        int sort = HOLDS_NOTHING;
        int length;
        final long[] items = new long[MOST];

        void lay(int sort, int length) {
            this.sort = sort;
            this.length = length;
            for (int i = 0; i < MOST; i++) {
                items[i] = 0;
            }
        }

        boolean isRow() {
            return sort != HOLDS_NOTHING;
        }

        boolean has(int i) {
            return i >= 0 && i < length;
        }

        boolean hasRun(int i, int n) {
            return i >= 0 && n >= 0 && n <= length - i;
        }

        void put(int i, long v) {
            switch (sort) {
                case BYTES: items[i] = (byte) v; break;
                case SHORTS: items[i] = (short) v; break;
                case INTS: items[i] = (int) v; break;
                case LONGS: items[i] = v; break;
                default: items[i] = v != 0 ? 1 : 0; break;
            }
        }
    }
}
