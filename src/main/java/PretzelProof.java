import java.util.Arrays;

/** Pretzels on a tray: ropes of dough told by what they go over and under, changed, tried, judged. */
public final class PretzelProof {
    public static final int NONE = -1, UNKNOWN = -1000000001, OUTSIDE = -1000000002, NOT = -1000000003, FULL = -1000000004;

    private static final int MOST_LETTERS = 240;
    private static final int MOST_PRETZELS = 5;
    private static final int MOST_CROSSINGS = 8;
    private static final int MOST_PASSES = 16;
    private static final int MOST_GRAINS = 99;
    private static final int MOST_FIGURES = 3;
    private static final int MOST_ENTRIES = 15;
    private static final int MOST_UNDONE = 16;
    private static final int MOST_DRIFTS = 30;
    private static final int MOST_EATEN = 60;
    private static final int HUNDRED = 100;
    private static final int IMAGES = 2;
    private static final int ALPHABET = 26;
    private static final int SETS = 256;
    private static final int BILLION = 1000000000;

    private final Reader reader;
    private final Tray now;
    private final History history;
    private final Tray[] images;
    private final int[] imageSeeds;
    private final Book book;
    private final MoveList moveList;
    private final Shaking shaking;
    private final Colours colours;
    private final Rounds rounds;
    private boolean laid;
    private int imagesKept;
    private int faultAt;
    private int drawn;

    public PretzelProof() {
        Numbering numbering = new Numbering();
        reader = new Reader(new Tray(numbering));
        now = new Tray(numbering);
        history = new History(numbering);
        images = new Tray[IMAGES];
        for (int i = 0; i < IMAGES; i++) {
            images[i] = new Tray(numbering);
        }
        imageSeeds = new int[IMAGES];
        book = new Book();
        moveList = new MoveList();
        shaking = new Shaking();
        colours = new Colours();
        rounds = new Rounds(numbering);
        faultAt = NONE;
    }

    // ---- the tray

    public int feed(int letter) {
        if (letter < 0 || letter > 255) {
            return OUTSIDE;
        }
        return reader.addLetter(letter) ? reader.letters : FULL;
    }

    public int tray() {
        int found = reader.readText();
        reader.letters = 0;
        faultAt = reader.faultAt;
        if (found != 0) {
            return -10 - found;
        }
        now.copyFrom(reader.draft);
        laid = reader.hasTray;
        book.entries = 0;
        imagesKept = 0;
        history.forgetAll();
        return now.pretzels;
    }

    public int fault() {
        return faultAt;
    }

    public int told(int what) {
        switch (what) {
            case 0: return now.pretzels;
            case 1: return reader.letters;
            case 2: return now.grains;
            case 3: return now.crossingsOfAll();
            case 4: return now.saltedOfAll();
            case 5: return now.plainOnes();
            case 6: return shakenOutOnes();
            case 7: return book.entries;
            case 8: return history.count;
            default: return OUTSIDE;
        }
    }

    public int pretzel(int k, int what) {
        Rope rope = now.ropeOf(k);
        if (rope == null) {
            return UNKNOWN;
        }
        switch (what) {
            case 0: return rope.crossings;
            case 1: return rope.salted;
            case 2: return colours.waysBy(rope, 3);
            case 3: return colours.waysBy(rope, 5);
            case 4: return weakOnes(rope);
            case 5: return fewestSwitches(rope);
            case 6: return oddOnes(rope);
            default: return OUTSIDE;
        }
    }

    public int pass(int k, int i) {
        Rope rope = now.ropeOf(k);
        return rope == null ? UNKNOWN : rope.passAt(i);
    }

    public int moves(int k, int i) {
        Rope rope = now.ropeOf(k);
        if (rope == null) {
            return UNKNOWN;
        }
        moveList.lookNow(rope);
        return i == NONE ? moveList.count : moveList.moveAt(i);
    }

    // ---- what is done

    public int shake(int k, int c, int d) {
        Rope rope = now.ropeOf(k);
        if (rope == null || !rope.has(c) || !rope.has(d)) {
            return UNKNOWN;
        }
        moveList.lookNow(rope);
        if (!moveList.contains(10 * Math.min(c, d) + Math.max(c, d))) {
            return NOT;
        }
        history.remember(now);
        rope.takeAway(1 << c | 1 << d);
        return rope.crossings;
    }

    public int curl(int k, int i, boolean overFirst) {
        Rope rope = now.ropeOf(k);
        if (rope == null) {
            return UNKNOWN;
        }
        if (i < 0 || i > rope.length()) {
            return OUTSIDE;
        }
        if (rope.crossings >= MOST_CROSSINGS) {
            return FULL;
        }
        history.remember(now);
        rope.addCurl(i, overFirst);
        return rope.crossings;
    }

    public int turn(int k, int c) {
        Rope rope = now.ropeOf(k);
        if (rope == null || !rope.has(c)) {
            return UNKNOWN;
        }
        history.remember(now);
        rope.switchSet(1 << c);
        return colours.waysBy(rope, 3);
    }

    public int reverse(int k) {
        Rope rope = now.ropeOf(k);
        if (rope == null) {
            return UNKNOWN;
        }
        history.remember(now);
        rope.goTheOtherWay();
        return rope.crossings;
    }

    public int mirror(int k) {
        Rope rope = now.ropeOf(k);
        if (rope == null) {
            return UNKNOWN;
        }
        history.remember(now);
        rope.switchSet(rope.everyCrossing());
        return rope.crossings;
    }

    public int roll(int k) {
        Rope rope = now.ropeOf(k);
        if (rope == null) {
            return UNKNOWN;
        }
        history.remember(now);
        rope.rollOnce();
        return rope.passAt(0);
    }

    public int join(int k, int q) {
        Rope rope = now.ropeOf(k);
        Rope other = now.ropeOf(q);
        if (rope == null || other == null || k == q) {
            return UNKNOWN;
        }
        if (rope.crossings + other.crossings > MOST_CROSSINGS) {
            return FULL;
        }
        history.remember(now);
        rope.append(other);
        other.makePlain();
        return rope.crossings;
    }

    public int salt(int k, int c, boolean is) {
        Rope rope = now.ropeOf(k);
        if (rope == null || !rope.has(c)) {
            return UNKNOWN;
        }
        boolean was = isIn(rope.salted, c);
        if (was == is || is && now.grains <= 0) {
            return NOT;
        }
        history.remember(now);
        rope.salted ^= 1 << c;
        now.grains += is ? -1 : 1;
        return now.grains;
    }

    public int drift(int n) {
        if (n < 1 || n > MOST_DRIFTS) {
            return OUTSIDE;
        }
        if (!laid) {
            return NOT;
        }
        history.remember(now);
        for (int i = 0; i < n && now.pretzels > 0; i++) {
            driftOnce();
        }
        return now.crossingsOfAll();
    }

    public int undo() {
        return history.restore(now) ? history.count : NOT;
    }

    // ---- tried

    public int toShake(int k, int what) {
        Rope rope = now.ropeOf(k);
        if (rope == null) {
            return UNKNOWN;
        }
        if (what < 0 || what > 3) {
            return OUTSIDE;
        }
        shaking.tryAll(rope, moveList);
        switch (what) {
            case 0: return shaking.fewest;
            case 1: return shaking.fewestMoves;
            case 2: return shaking.sets;
            default: return shaking.firstMove;
        }
    }

    public int within(int k, int c) {
        Rope rope = now.ropeOf(k);
        return rope == null || !rope.has(c) ? UNKNOWN : rope.lyingIn(c);
    }

    public int same(int k, int q) {
        Rope rope = now.ropeOf(k);
        Rope other = now.ropeOf(q);
        if (rope == null || other == null || k == q) {
            return UNKNOWN;
        }
        return rounds.waysInto(rope, other);
    }

    public int tells(int k, int q) {
        Rope rope = now.ropeOf(k);
        Rope other = now.ropeOf(q);
        if (rope == null || other == null || k == q) {
            return UNKNOWN;
        }
        int parted = 0;
        if (colours.waysBy(rope, 3) != colours.waysBy(other, 3)) {
            parted += 1;
        }
        if (colours.waysBy(rope, 5) != colours.waysBy(other, 5)) {
            parted += 2;
        }
        if (fewestUnsalted(rope) != fewestUnsalted(other)) {
            parted += 4;
        }
        return parted;
    }

    public int words(int k, int i) {
        Rope rope = now.ropeOf(k);
        return rope == null ? UNKNOWN : rounds.leastWordAt(rope, i);
    }

    public int colour(int k, int part) {
        Rope rope = now.ropeOf(k);
        return rope == null ? UNKNOWN : colours.firstColourOf(rope, part);
    }

    public int whole(int n, int q) {
        if (n < 0 || n > MOST_EATEN || q < 0 || q > HUNDRED) {
            return OUTSIDE;
        }
        long odds = BILLION;
        for (int i = 0; i < n; i++) {
            odds = odds * q / HUNDRED;
        }
        return (int) odds;
    }

    // ---- the book

    public int write(int k, int crossings) {
        if (now.ropeOf(k) == null) {
            return UNKNOWN;
        }
        if (crossings < 0 || crossings > MOST_CROSSINGS) {
            return OUTSIDE;
        }
        return book.addEntry(k, crossings) ? book.entries : FULL;
    }

    public int tear() {
        int had = book.entries;
        book.entries = 0;
        return had;
    }

    public int judge() {
        return book.firstWrong(now);
    }

    // ---- draws, images

    public int seed(int v) {
        if (v < 0) {
            return OUTSIDE;
        }
        int was = drawn;
        drawn = v;
        return was;
    }

    public int keep(int i) {
        if (i < 0 || i >= IMAGES) {
            return UNKNOWN;
        }
        images[i].copyFrom(now);
        imageSeeds[i] = drawn;
        imagesKept |= 1 << i;
        history.forgetAll();
        return 1;
    }

    public int goBack(int i) {
        if (i < 0 || i >= IMAGES) {
            return UNKNOWN;
        }
        if (!isIn(imagesKept, i)) {
            return NOT;
        }
        now.copyFrom(images[i]);
        drawn = imageSeeds[i];
        history.forgetAll();
        return 1;
    }

    private int shakenOutOnes() {
        int set = 0;
        for (int k = 0; k < MOST_PRETZELS; k++) {
            Rope rope = now.ropeOf(k);
            if (rope != null && moveList.leftOf(rope, rope.everyCrossing(), 0, rope.salted) == 0) {
                set |= 1 << k;
            }
        }
        return set;
    }

    private int fewestUnsalted(Rope rope) {
        return Integer.bitCount(moveList.leftOf(rope, rope.everyCrossing(), 0, 0));
    }

    private int weakOnes(Rope rope) {
        int set = 0;
        for (int c = 0; c < rope.crossings; c++) {
            if (moveList.leftOf(rope, rope.everyCrossing(), 1 << c, 0) == 0) {
                set |= 1 << c;
            }
        }
        return set;
    }

    private int fewestSwitches(Rope rope) {
        // What curls away does so switched or not, so it need never be switched.
        int wound = moveList.leftByCurls(rope);
        // Half of them is enough: to switch all the others instead gives the mirrored rope, with the same moves.
        for (int many = 0; many <= Integer.bitCount(wound) / 2; many++) {
            for (int set = 0; set <= wound; set++) {
                boolean fits = (set & ~wound) == 0 && Integer.bitCount(set) == many;
                if (fits && moveList.leftOf(rope, wound, set, 0) == 0) {
                    return set;
                }
            }
        }
        return NONE;
    }

    private static int oddOnes(Rope rope) {
        int set = 0;
        for (int c = 0; c < rope.crossings; c++) {
            set |= (Integer.bitCount(rope.lyingIn(c)) & 1) << c;
        }
        return set;
    }

    private void driftOnce() {
        int what = draw(5);
        Rope rope = now.ropeOf(draw(now.pretzels));
        if (rope == null) {
            return;
        }
        switch (what) {
            case 0:
                shakeByFirstMove(rope);
                break;
            case 1:
                curlByDraws(rope);
                break;
            case 2:
                if (rope.crossings > 0) {
                    rope.switchSet(1 << draw(rope.crossings));
                }
                break;
            case 3:
                rope.goTheOtherWay();
                break;
            default:
                rope.rollOnce();
                break;
        }
    }

    private void shakeByFirstMove(Rope rope) {
        moveList.lookNow(rope);
        if (moveList.count > 0) {
            rope.takeAway(takenBy(moveList.moveAt(0)));
        }
    }

    private void curlByDraws(Rope rope) {
        if (rope.crossings >= MOST_CROSSINGS) {
            return;
        }
        int ahead = draw(rope.length() + 1);
        boolean overFirst = draw(2) == 1;
        rope.addCurl(ahead, overFirst);
    }

    private int draw(int n) {
        drawn = (int) ((drawn * 1103515245L + 12345L) & 0x7fffffffL);
        return leftOver(drawn / 65536, n);
    }

    private static int leftOver(int number, int by) {
        return by > 0 ? number % by : 0;
    }

    private static boolean isIn(int set, int member) {
        return (set >> member & 1) == 1;
    }

    /** The mask keeps what a pass names within rows of eight. */
    private static int crossingOf(int pass) {
        return pass >> 1 & 7;
    }

    private static int takenBy(int move) {
        return move < 0 ? 0 : 1 << move / 10 | 1 << move % 10;
    }

    /** Gives names numbers from 0 on, as they come. */
    private static final class Numbering {
        final int[] numbers;
        int known;
        int given;

        Numbering() {
            numbers = new int[ALPHABET];
        }

        void begin() {
            known = 0;
            given = 0;
        }

        boolean knows(int name) {
            return isIn(known, name);
        }

        int numberOf(int name) {
            if (name < 0 || name >= ALPHABET) {
                return 0;
            }
            if (!knows(name)) {
                known |= 1 << name;
                numbers[name] = given;
                given++;
            }
            return numbers[name];
        }
    }

    /** One pretzel: its thread, each pass as pass() tells it, and the set of its salted crossings. */
    private static final class Rope {
        final Numbering numbering;
        final int[] passes;
        int crossings;
        int salted;

        Rope(Numbering shared) {
            numbering = shared;
            passes = new int[MOST_PASSES];
        }

        int length() {
            return 2 * crossings;
        }

        int everyCrossing() {
            return (1 << crossings) - 1;
        }

        boolean has(int c) {
            return c >= 0 && c < crossings;
        }

        int passAt(int i) {
            return i >= 0 && i < length() ? passes[i] : NONE;
        }

        void makePlain() {
            crossings = 0;
            salted = 0;
        }

        void copyFrom(Rope other) {
            System.arraycopy(other.passes, 0, passes, 0, MOST_PASSES);
            crossings = other.crossings;
            salted = other.salted;
        }

        void lay(int[] row, int count) {
            makePlain();
            for (int i = 0; i < 2 * count && i < MOST_PASSES && i < row.length; i++) {
                passes[i] = row[i];
            }
            crossings = Math.min(count, MOST_CROSSINGS);
        }

        void numberAnew() {
            int saltedThen = 0;
            numbering.begin();
            for (int i = 0; i < length(); i++) {
                int was = crossingOf(passes[i]);
                int is = numbering.numberOf(was);
                saltedThen |= (salted >> was & 1) << is;
                passes[i] = 2 * is + (passes[i] & 1);
            }
            salted = saltedThen;
        }

        void takeAway(int set) {
            int left = 0;
            for (int i = 0; i < length(); i++) {
                if (!isIn(set, crossingOf(passes[i]))) {
                    passes[left] = passes[i];
                    left++;
                }
            }
            crossings = left / 2;
            numberAnew();
        }

        void addCurl(int ahead, boolean overFirst) {
            if (ahead < 0 || ahead > length() || crossings >= MOST_CROSSINGS) {
                return;
            }
            for (int i = length() - 1; i >= ahead; i--) {
                passes[i + 2] = passes[i];
            }
            passes[ahead] = 2 * crossings + (overFirst ? 1 : 0);
            passes[ahead + 1] = 2 * crossings + (overFirst ? 0 : 1);
            crossings++;
            numberAnew();
        }

        void switchSet(int set) {
            for (int i = 0; i < length(); i++) {
                passes[i] ^= set >> crossingOf(passes[i]) & 1;
            }
        }

        void goTheOtherWay() {
            int last = length() - 1;
            for (int i = 0; i < crossings; i++) {
                int held = passes[i];
                passes[i] = passes[last - i];
                passes[last - i] = held;
            }
            numberAnew();
        }

        void rollOnce() {
            int first = passes[0];
            for (int i = 1; i < length(); i++) {
                passes[i - 1] = passes[i];
            }
            if (crossings > 0) {
                passes[length() - 1] = first;
            }
            numberAnew();
        }

        void append(Rope other) {
            if (crossings + other.crossings > MOST_CROSSINGS) {
                return;
            }
            for (int i = 0; i < other.length(); i++) {
                passes[length() + i] = other.passes[i] + 2 * crossings;
            }
            salted |= other.salted << crossings;
            crossings += other.crossings;
        }

        /** Of a crossing between both passes of c once is seen, twice is not in c: so each sight switches its bit. */
        int lyingIn(int c) {
            int set = 0;
            boolean between = false;
            for (int i = 0; i < length(); i++) {
                int here = crossingOf(passes[i]);
                if (here == c) {
                    between = !between;
                } else if (between) {
                    set ^= 1 << here;
                }
            }
            return set;
        }
    }

    /** All that section 2 of the document is about: ropes with their salt, and the bin. */
    private static final class Tray {
        final Rope[] ropes;
        int pretzels;
        int grains;

        Tray(Numbering numbering) {
            ropes = new Rope[MOST_PRETZELS];
            for (int k = 0; k < MOST_PRETZELS; k++) {
                ropes[k] = new Rope(numbering);
            }
        }

        Rope ropeOf(int k) {
            return k >= 0 && k < pretzels && k < MOST_PRETZELS ? ropes[k] : null;
        }

        void copyFrom(Tray other) {
            pretzels = other.pretzels;
            grains = other.grains;
            for (int k = 0; k < MOST_PRETZELS; k++) {
                ropes[k].copyFrom(other.ropes[k]);
            }
        }

        int crossingsOfAll() {
            int sum = 0;
            for (int k = 0; k < pretzels && k < MOST_PRETZELS; k++) {
                sum += ropes[k].crossings;
            }
            return sum;
        }

        int saltedOfAll() {
            int sum = 0;
            for (int k = 0; k < pretzels && k < MOST_PRETZELS; k++) {
                sum += Integer.bitCount(ropes[k].salted);
            }
            return sum;
        }

        int plainOnes() {
            int set = 0;
            for (int k = 0; k < pretzels && k < MOST_PRETZELS; k++) {
                if (ropes[k].crossings == 0) {
                    set |= 1 << k;
                }
            }
            return set;
        }
    }

    /** The text, and what it says: a draft of a tray, or the first fault. */
    private static final class Reader {
        static final int BLANK = 32;
        static final int AT_START = 0;
        static final int BEHIND_U = 1;
        static final int IN_NUMBER = 2;
        static final int BEHIND_NUMBER = 3;
        static final int AT_CLAUSE = 4;
        static final int IN_THREAD = 5;

        final int[] text;
        final Tray draft;
        final Numbering names;
        final int[] row;
        int letters;
        int place;
        int figures;
        int firstFigure;
        int greats;
        int smalls;
        int faultAt;
        boolean hasTray;

        Reader(Tray empty) {
            text = new int[MOST_LETTERS];
            draft = empty;
            names = new Numbering();
            row = new int[MOST_PASSES];
            faultAt = NONE;
        }

        boolean addLetter(int letter) {
            if (letters < 0 || letters >= MOST_LETTERS) {
                return false;
            }
            text[letters] = letter;
            letters++;
            return true;
        }

        /** The number of the first fault, which stands at faultAt then; 0: none. */
        int readText() {
            draft.pretzels = 0;
            draft.grains = 0;
            place = AT_START;
            for (int at = 0; at < letters && at < MOST_LETTERS; at++) {
                int found = text[at] == BLANK ? readBlank() : readLetter(text[at], at);
                if (found != 0) {
                    // A number's fault stands at its first figure, all others where they are seen.
                    faultAt = found == 2 ? firstFigure : at;
                    return found;
                }
            }
            boolean ended = place == AT_START || place == AT_CLAUSE;
            hasTray = ended ? place == AT_CLAUSE : hasTray;
            faultAt = ended ? NONE : letters;
            return ended ? 0 : 1;
        }

        int readBlank() {
            if (place == IN_NUMBER) {
                place = BEHIND_NUMBER;
            }
            return 0;
        }

        int readLetter(int letter, int at) {
            switch (place) {
                case AT_START: return readStart(letter);
                case BEHIND_U: return readFirstFigure(letter, at);
                case IN_NUMBER: return readNumber(letter);
                case BEHIND_NUMBER: return readNumbersEnd(letter);
                case AT_CLAUSE: return readClause(letter);
                default: return readThread(letter);
            }
        }

        int readStart(int letter) {
            if (letter != 'u') {
                return 1;
            }
            place = BEHIND_U;
            return 0;
        }

        int readFirstFigure(int letter, int at) {
            if (!isFigure(letter)) {
                return 1;
            }
            place = IN_NUMBER;
            firstFigure = at;
            figures = 1;
            draft.grains = letter - '0';
            return 0;
        }

        int readNumber(int letter) {
            if (!isFigure(letter)) {
                return readNumbersEnd(letter);
            }
            figures++;
            draft.grains = 10 * draft.grains + letter - '0';
            return figures > MOST_FIGURES || draft.grains > MOST_GRAINS ? 2 : 0;
        }

        int readNumbersEnd(int letter) {
            if (letter != ';') {
                return 1;
            }
            place = AT_CLAUSE;
            return 0;
        }

        int readClause(int letter) {
            if (letter == 'u') {
                return 3;
            }
            if (letter != 'k') {
                return 1;
            }
            if (draft.pretzels >= MOST_PRETZELS) {
                return 3;
            }
            place = IN_THREAD;
            names.begin();
            greats = 0;
            smalls = 0;
            return 0;
        }

        int readThread(int letter) {
            if (letter >= 'A' && letter <= 'Z') {
                return readPass(letter - 'A', true);
            }
            if (letter >= 'a' && letter <= 'z') {
                return readPass(letter - 'a', false);
            }
            return letter == ';' ? readThreadsEnd() : 1;
        }

        int readPass(int name, boolean over) {
            if (isIn(over ? greats : smalls, name)) {
                return 4;
            }
            if (!names.knows(name) && names.given >= MOST_CROSSINGS) {
                return 3;
            }
            int come = Integer.bitCount(greats) + Integer.bitCount(smalls);
            if (come < MOST_PASSES) {
                row[come] = 2 * names.numberOf(name) + (over ? 1 : 0);
            }
            if (over) {
                greats |= 1 << name;
            } else {
                smalls |= 1 << name;
            }
            return 0;
        }

        int readThreadsEnd() {
            if (greats != smalls) {
                return 5;
            }
            draft.pretzels++;
            Rope rope = draft.ropeOf(draft.pretzels - 1);
            if (rope != null) {
                rope.lay(row, names.given);
            }
            place = AT_CLAUSE;
            return 0;
        }

        static boolean isFigure(int letter) {
            return letter >= '0' && letter <= '9';
        }
    }

    /** What was so ahead of the latest changes: a ring, the oldest is overwritten. */
    private static final class History {
        final Tray[] ahead;
        int next;
        int count;

        History(Numbering numbering) {
            ahead = new Tray[MOST_UNDONE];
            for (int i = 0; i < MOST_UNDONE; i++) {
                ahead[i] = new Tray(numbering);
            }
        }

        void forgetAll() {
            count = 0;
        }

        void remember(Tray tray) {
            ahead[next].copyFrom(tray);
            next = (next + 1) % MOST_UNDONE;
            count = Math.min(count + 1, MOST_UNDONE);
        }

        boolean restore(Tray tray) {
            if (count <= 0) {
                return false;
            }
            next = (next + MOST_UNDONE - 1) % MOST_UNDONE;
            count--;
            tray.copyFrom(ahead[next]);
            return true;
        }
    }

    /** What was written of how many crossings pretzels have. */
    private static final class Book {
        final int[] pretzels;
        final int[] crossings;
        int entries;

        Book() {
            pretzels = new int[MOST_ENTRIES];
            crossings = new int[MOST_ENTRIES];
        }

        boolean addEntry(int k, int told) {
            if (entries < 0 || entries >= MOST_ENTRIES) {
                return false;
            }
            pretzels[entries] = k;
            crossings[entries] = told;
            entries++;
            return true;
        }

        int firstWrong(Tray tray) {
            for (int i = 0; i < entries && i < MOST_ENTRIES; i++) {
                Rope rope = tray.ropeOf(pretzels[i]);
                if (rope == null || rope.crossings != crossings[i]) {
                    return i;
                }
            }
            return NONE;
        }
    }

    /** Moves that take away from what is left of a rope, rising. */
    private static final class MoveList {
        /** Each crossing's curl, and each two crossings' poke. */
        static final int MOST_MOVES = 36;

        final int[] row;
        final int[] oversBeside;
        final int[] undersBeside;
        final int[] numbers;
        int curls;
        int count;

        MoveList() {
            row = new int[MOST_PASSES];
            oversBeside = new int[MOST_CROSSINGS];
            undersBeside = new int[MOST_CROSSINGS];
            numbers = new int[MOST_MOVES];
        }

        void lookNow(Rope rope) {
            lookAt(rope, rope.everyCrossing(), 0, rope.salted);
        }

        /** With only the crossings in left still there, those in switched switched, those in held not to be taken. */
        void lookAt(Rope rope, int left, int switched, int held) {
            seeNeighbours(takeRow(rope, left, switched));
            listMoves(left & ~held);
        }

        int moveAt(int i) {
            return i >= 0 && i < count && i < MOST_MOVES ? numbers[i] : NONE;
        }

        boolean contains(int move) {
            for (int i = 0; i < count && i < MOST_MOVES; i++) {
                if (numbers[i] == move) {
                    return true;
                }
            }
            return false;
        }

        /**
         * The crossings that stay of left, by the first moves. Any other row of moves leaves as many: moves apart
         * from one another stay possible, a curl of one that could be poked leaves the other to be curled, and of
         * two pokes that share a crossing each leaves the same thread but for the name.
         */
        int leftOf(Rope rope, int left, int switched, int held) {
            int stay = left;
            for (int i = 0; i < MOST_CROSSINGS; i++) {
                lookAt(rope, stay, switched, held);
                if (count == 0) {
                    break;
                }
                int freeCurls = curls & ~held;
                stay &= ~(freeCurls != 0 ? freeCurls : takenBy(numbers[0]));
            }
            return stay;
        }

        int leftByCurls(Rope rope) {
            int stay = rope.everyCrossing();
            for (int i = 0; i < MOST_CROSSINGS; i++) {
                seeNeighbours(takeRow(rope, stay, 0));
                stay &= ~curls;
            }
            return stay;
        }

        int takeRow(Rope rope, int left, int switched) {
            int length = 0;
            for (int i = 0; i < rope.length(); i++) {
                int pass = rope.passes[i];
                int c = crossingOf(pass);
                if (isIn(left, c)) {
                    row[length] = pass ^ (switched >> c & 1);
                    length++;
                }
            }
            return length;
        }

        void seeNeighbours(int length) {
            Arrays.fill(oversBeside, 0);
            Arrays.fill(undersBeside, 0);
            curls = 0;
            for (int i = 0; i < length; i++) {
                int one = row[i];
                int other = row[i + 1 < length ? i + 1 : 0];
                int c = crossingOf(one);
                int d = crossingOf(other);
                if (c == d) {
                    curls |= 1 << c;
                } else if ((one & other & 1) == 1) {
                    oversBeside[c] |= 1 << d;
                    oversBeside[d] |= 1 << c;
                } else if (((one | other) & 1) == 0) {
                    undersBeside[c] |= 1 << d;
                    undersBeside[d] |= 1 << c;
                }
            }
        }

        void listMoves(int free) {
            count = 0;
            for (int c = 0; c < MOST_CROSSINGS; c++) {
                if (!isIn(free, c)) {
                    continue;
                }
                int partners = (curls & 1 << c | oversBeside[c] & undersBeside[c]) & free;
                for (int d = c; d < MOST_CROSSINGS && partners >> d != 0; d++) {
                    if (isIn(partners, d) && count < MOST_MOVES) {
                        numbers[count] = 10 * c + d;
                        count++;
                    }
                }
            }
        }
    }

    /** All that can be left of a rope by moves one behind the other. */
    private static final class Shaking {
        final int[] movesTo;
        final int[] firstTo;
        int sets;
        int fewest;
        int fewestMoves;
        int firstMove;

        Shaking() {
            movesTo = new int[SETS];
            firstTo = new int[SETS];
        }

        /** Moves only take away, so each set is reached from greater numbers alone: one way down sees all. */
        void tryAll(Rope rope, MoveList moveList) {
            int every = rope.everyCrossing() & SETS - 1;
            Arrays.fill(movesTo, NONE);
            movesTo[every] = 0;
            firstTo[every] = NONE;
            sets = 0;
            fewest = rope.crossings;
            fewestMoves = 0;
            firstMove = NONE;
            for (int left = every; left >= 0; left--) {
                if (movesTo[left] != NONE) {
                    sets++;
                    weigh(left);
                    moveList.lookAt(rope, left, 0, rope.salted);
                    followMoves(left, left == every, moveList);
                }
            }
        }

        void followMoves(int left, boolean isStart, MoveList moveList) {
            for (int i = 0; i < moveList.count; i++) {
                int move = moveList.moveAt(i);
                int to = left & ~takenBy(move) & SETS - 1;
                int many = movesTo[left] + 1;
                int first = isStart ? move : firstTo[left];
                boolean better = movesTo[to] == NONE || many < movesTo[to];
                if (better || many == movesTo[to] && first < firstTo[to]) {
                    movesTo[to] = many;
                    firstTo[to] = first;
                }
            }
        }

        void weigh(int left) {
            int crossings = Integer.bitCount(left);
            boolean better = crossings < fewest || crossings == fewest && movesTo[left] < fewestMoves;
            boolean like = crossings == fewest && movesTo[left] == fewestMoves;
            if (better || like && firstTo[left] < firstMove) {
                fewest = crossings;
                fewestMoves = movesTo[left];
                firstMove = firstTo[left];
            }
        }
    }

    /** Colours of a rope's parts: one row of numbers for each crossing, that must come to 0 by m. */
    private static final class Colours {
        final int[][] rows;
        final int[] overParts;
        final int[] beginningParts;
        final int[] pivotRows;
        int parts;
        int rank;

        Colours() {
            rows = new int[MOST_CROSSINGS][MOST_CROSSINGS];
            overParts = new int[MOST_CROSSINGS];
            beginningParts = new int[MOST_CROSSINGS];
            pivotRows = new int[MOST_CROSSINGS];
        }

        int waysBy(Rope rope, int m) {
            solve(rope, m);
            int ways = 1;
            for (int i = rank; i < parts; i++) {
                ways *= m;
            }
            return ways;
        }

        /**
         * Parts that are pivots follow from those ahead of them, the others are free. So the first way that is not
         * of one colour has 1 at the last free part, 0 at the other free ones. Part 0 is always free (all colours
         * may be shifted): if no other is, all ways are of one colour.
         */
        int firstColourOf(Rope rope, int part) {
            solve(rope, 3);
            if (part < 0 || part >= parts) {
                return NONE;
            }
            int free = parts - 1;
            while (free > 0 && pivotRows[free] != NONE) {
                free--;
            }
            if (free <= 0) {
                return NONE;
            }
            int pivotRow = pivotRows[part];
            if (pivotRow < 0 || pivotRow >= MOST_CROSSINGS) {
                return part == free ? 1 : 0;
            }
            return leftOver(3 - rows[pivotRow][free], 3);
        }

        void solve(Rope rope, int m) {
            findParts(rope);
            writeRows(rope, m);
            rank = 0;
            for (int part = parts - 1; part >= 0; part--) {
                int row = rowWith(part, rope.crossings);
                pivotRows[part] = row == NONE ? NONE : rank;
                if (row != NONE) {
                    exchangeRows(row, rank);
                    scaleRow(rank, part, m);
                    clearOthers(rank, part, rope.crossings, m);
                    rank++;
                }
            }
        }

        void findParts(Rope rope) {
            parts = Math.max(1, rope.crossings);
            int begun = 0;
            for (int i = 0; i < rope.length(); i++) {
                int pass = rope.passes[i];
                int c = crossingOf(pass);
                if ((pass & 1) == 1) {
                    overParts[c] = begun == 0 ? parts - 1 : begun - 1;
                } else {
                    beginningParts[c] = begun;
                    begun++;
                }
            }
        }

        void writeRows(Rope rope, int m) {
            for (int c = 0; c < rope.crossings; c++) {
                int begins = beginningParts[c];
                int ends = begins == 0 ? parts - 1 : begins - 1;
                Arrays.fill(rows[c], 0);
                addTo(c, overParts[c], 2, m);
                addTo(c, begins, m - 1, m);
                addTo(c, ends, m - 1, m);
            }
        }

        void addTo(int row, int part, int amount, int m) {
            if (part >= 0 && part < MOST_CROSSINGS) {
                rows[row][part] = leftOver(rows[row][part] + amount, m);
            }
        }

        int rowWith(int part, int count) {
            for (int row = rank; row < count; row++) {
                if (rows[row][part] != 0) {
                    return row;
                }
            }
            return NONE;
        }

        void exchangeRows(int one, int other) {
            for (int part = 0; part < parts; part++) {
                int held = rows[one][part];
                rows[one][part] = rows[other][part];
                rows[other][part] = held;
            }
        }

        void scaleRow(int row, int pivot, int m) {
            int factor = 1;
            while (factor < m && leftOver(rows[row][pivot] * factor, m) != 1) {
                factor++;
            }
            for (int part = 0; part < parts; part++) {
                rows[row][part] = leftOver(rows[row][part] * factor, m);
            }
        }

        void clearOthers(int pivotRow, int pivot, int count, int m) {
            for (int row = 0; row < count; row++) {
                int times = row == pivotRow ? 0 : m - rows[row][pivot];
                for (int part = 0; part < parts && times != 0; part++) {
                    rows[row][part] = leftOver(rows[row][part] + times * rows[pivotRow][part], m);
                }
            }
        }
    }

    /** A thread gone along from any of its passes on, also the other way and mirrored, numbered anew. */
    private static final class Rounds {
        final Numbering numbering;
        final int[] row;
        final int[] least;

        Rounds(Numbering shared) {
            numbering = shared;
            row = new int[MOST_PASSES];
            least = new int[MOST_PASSES];
        }

        int waysInto(Rope rope, Rope other) {
            if (rope.crossings != other.crossings) {
                return 0;
            }
            int ways = 0;
            for (int way = 0; way < 4; way++) {
                if (comesTo(rope, other, (way & 1) == 1, way >> 1)) {
                    ways |= 1 << way;
                }
            }
            return ways;
        }

        int leastWordAt(Rope rope, int i) {
            int length = rope.length();
            for (int from = 0; from < length; from++) {
                goAlong(rope, from, false, 0);
                if (from == 0 || compare(row, least, length) < 0) {
                    System.arraycopy(row, 0, least, 0, length);
                }
            }
            return i >= 0 && i < length ? least[i] : NONE;
        }

        boolean comesTo(Rope rope, Rope other, boolean back, int flip) {
            int length = rope.length();
            for (int from = 0; from < length; from++) {
                goAlong(rope, from, back, flip);
                if (compare(row, other.passes, length) == 0) {
                    return true;
                }
            }
            return length == 0;
        }

        void goAlong(Rope rope, int from, boolean back, int flip) {
            int length = rope.length();
            int at = from;
            numbering.begin();
            for (int i = 0; i < length; i++) {
                int pass = rope.passAt(at);
                row[i] = 2 * numbering.numberOf(crossingOf(pass)) + (pass & 1 ^ flip);
                if (back) {
                    at = at == 0 ? length - 1 : at - 1;
                } else {
                    at = at + 1 == length ? 0 : at + 1;
                }
            }
        }

        static int compare(int[] one, int[] other, int length) {
            for (int i = 0; i < length && i < one.length && i < other.length; i++) {
                if (one[i] != other[i]) {
                    return one[i] < other[i] ? -1 : 1;
                }
            }
            return 0;
        }
    }
}
