/** What tests share: answers that are due, by the sentence of the document that asks for them. */
abstract class Checks {
    static final int NONE = -1, UNKNOWN = -1000000001, OUTSIDE = -1000000002, NOT = -1000000003, FULL = -1000000004;
    static final int LOW = Integer.MIN_VALUE, HIGH = Integer.MAX_VALUE;
    static final String TREFOIL = "aBcAbC", EIGHT = "aBcAdCbD";
    private static String place = "";
    private static int asked = 0;
    private static int wrong = 0;

    interface Call {
        int on(PretzelProof x);
    }

    interface CallWith {
        int on(PretzelProof x, int number);
    }

    /** The promise, or the place in 'Terms', whose sentence the next answers hold. */
    static void at(String sentence) {
        place = sentence;
    }

    static void due(String call, int got, int want) {
        due(call, Integer.toString(got), Integer.toString(want));
    }

    static void due(String call, String got, String want) {
        asked++;
        if (!got.equals(want)) {
            wrong++;
            System.out.println(place + " | " + call + " answered " + got + ", due is " + want);
        }
    }

    static void end() {
        System.out.println(asked + " answers, " + wrong + " not as due");
        if (wrong != 0) {
            System.exit(1);
        }
    }

    static void feedAll(PretzelProof x, String text) {
        for (int i = 0; i < text.length(); i++) {
            x.feed(text.charAt(i));
        }
    }

    static int trayOf(PretzelProof x, String text) {
        feedAll(x, text);
        return x.tray();
    }

    static PretzelProof laid(String text) {
        PretzelProof x = new PretzelProof();
        int pretzels = trayOf(x, text);
        if (pretzels < 0) {
            due("tray() of '" + text + "'", pretzels, 0);
        }
        return x;
    }

    /** A thread as letters, the crossings named as they come. */
    static String thread(PretzelProof x, int k) {
        StringBuilder letters = new StringBuilder();
        for (int i = 0; i < 20; i++) {
            int pass = x.pass(k, i);
            if (pass < 0) {
                break;
            }
            letters.append((char) ((pass & 1) == 1 ? 'A' + pass / 2 : 'a' + pass / 2));
        }
        return letters.toString();
    }

    static void dueThread(String what, PretzelProof x, int k, String want) {
        due(what + ": the thread", thread(x, k), want);
    }

    static String movesOf(PretzelProof x, int k) {
        StringBuilder all = new StringBuilder();
        for (int i = 0; i < x.moves(k, NONE); i++) {
            all.append(x.moves(k, i)).append(' ');
        }
        return all.toString().strip();
    }

    /** A text on top of a tray that is there; with a fault that tray stays. */
    static void dueFault(String text, int answer, int at) {
        PretzelProof x = laid("u7;kAa;");
        due("tray() of '" + text + "'", trayOf(x, text), answer);
        due("fault() of '" + text + "'", x.fault(), at);
        due("letters behind tray() of '" + text + "'", x.told(1), 0);
        if (answer < 0) {
            due("pretzels behind '" + text + "'", x.told(0), 1);
            due("grains behind '" + text + "'", x.told(2), 7);
        }
    }

    /** Pretzels that there are not: beside a tray of two, on a tray of none, without a tray. */
    static void dueUnknownPretzel(String call, CallWith asked) {
        for (int k : new int[] {-1, 2, 3, 5, 31, 32, LOW, HIGH}) {
            due(call + " of pretzel " + k, asked.on(laid("u9;kABab;kAa;"), k), UNKNOWN);
        }
        due(call + " without a tray", asked.on(new PretzelProof(), 0), UNKNOWN);
        due(call + " on a tray without pretzels", asked.on(laid("u9;"), 0), UNKNOWN);
    }

    /** Crossings that there are not: of pretzel 0, which has two, and of none (both calls as told by their names). */
    static void dueUnknownCrossing(String call, CallWith asked) {
        for (int c : new int[] {-1, 2, 3, 7, 8, 31, 32, 33, LOW, HIGH}) {
            due(call + " of crossing " + c, asked.on(laid("u9;kABab;kAa;"), c), UNKNOWN);
        }
        due(call + " of a plain one", asked.on(laid("u9;k;kAa;"), 0), UNKNOWN);
    }

    static void dueOutside(String call, CallWith asked, int... numbers) {
        for (int number : numbers) {
            due(call + " with " + number, asked.on(laid("u9;kABab;kAa;"), number), OUTSIDE);
        }
    }

    /** Section 2 as it can be seen, and counts. */
    static String state(PretzelProof x) {
        StringBuilder seen = new StringBuilder();
        for (int what = 0; what <= 8; what++) {
            seen.append(x.told(what)).append(' ');
        }
        for (int k = 0; k < x.told(0); k++) {
            seen.append(thread(x, k)).append('/').append(x.pretzel(k, 1)).append(' ');
        }
        return seen.append('\n').toString();
    }

    /** All that can be seen of an object, and then of all that can be undone, gone back to and read; it is used up by that. */
    static String everything(PretzelProof x) {
        StringBuilder seen = new StringBuilder(state(x));
        seen.append("fault ").append(x.fault()).append(" judged ").append(x.judge()).append('\n');
        while (x.undo() != NOT) {
            seen.append("undone: ").append(state(x));
        }
        for (int i = 0; i < 2; i++) {
            int seed = x.seed(0);
            seen.append("seed ").append(seed).append(" image: ").append(x.goBack(i)).append(' ').append(state(x));
        }
        seen.append("seed ").append(x.seed(0)).append(" book ").append(x.tear());
        return seen.append(" text ").append(x.tray()).append(' ').append(x.fault()).append(' ').append(state(x)).toString();
    }
}
