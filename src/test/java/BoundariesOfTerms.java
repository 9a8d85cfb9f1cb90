/** For each sentence of 'What it is' and 'Terms' that names a boundary case one test, under the sentence that it holds. */
public final class BoundariesOfTerms extends Checks {
    private static final String GREATS = "ABCDEFGHIJKLMNOPQRSTUVWXYZ", SMALLS = "abcdefghijklmnopqrstuvwxyz";
    private static final String FIGURES = "0123456789";
    private static final String OVERS_THEN_UNDERS = "ABCDEFGHabcdefgh", NESTED = "ABCDEFGHhgfedcba", CURLS = "aAbBcCdDeEfFgGhH";

    public static void main(String[] args) {
        callsToTheLast();
        sets();
        refusalsInOrder();
        refusedAreUnknown();
        refusedChangesNothing();
        constants();
        textLength();
        salt();
        pretzels();
        names();
        blanks();
        lettersByPlace();
        faultsByPlace();
        faultOne();
        faultTwo();
        faultThree();
        faultFour();
        faultFive();
        noTray();
        threadGoesRound();
        numberedAnew();
        saltedAtFirst();
        saltedStays();
        curled();
        joined();
        grains();
        triedChangesNothing();
        moves();
        shake();
        colours();
        weakAndSwitches();
        withinAndOdd();
        same();
        tells();
        words();
        colour();
        whole();
        book();
        seedDrawn();
        draws();
        drawnShake();
        drawnCurl();
        drawnSwitch();
        drawnReverseAndRoll();
        undone();
        undoneSixteen();
        images();
        end();
    }

    // ---- what it is, and refusals

    private static void callsToTheLast() {
        at("What it is: 'used for at most 512 calls'");
        PretzelProof x = laid("u9;kAa;");
        for (int call = 9; call <= 508; call++) {
            x.roll(0);
        }
        due("call 509", x.told(8), 16);
        due("call 510", x.pass(0, 0), 1);
        due("call 511", x.undo(), 15);
        due("call 512", x.pass(0, 0), 0);
    }

    private static void sets() {
        at("Terms: 'A SET is a whole number, bit k for k'");
        PretzelProof x = laid("u9;k" + OVERS_THEN_UNDERS + ";k;k;k;k;");
        x.salt(0, 0, true);
        due("salt on crossing 0", x.pretzel(0, 1), 1);
        x.salt(0, 7, true);
        due("salt on crossing 7, too", x.pretzel(0, 1), 129);
        due("pretzels 1 to 4 are plain", x.told(5), 30);
        due("all five are plain", laid("u9;k;k;k;k;k;").told(5), 31);
        due("none is plain", laid("u9;kAa;kAa;kAa;kAa;kAa;").told(5), 0);
    }

    private static void refusalsInOrder() {
        at("Terms: 'REFUSALS, of several the first in this order'");
        PretzelProof x = busy();
        due("pretzel: UNKNOWN ahead of OUTSIDE", x.pretzel(3, 7), UNKNOWN);
        due("toShake: UNKNOWN ahead of OUTSIDE", x.toShake(3, 4), UNKNOWN);
        due("shake: UNKNOWN ahead of NOT", x.shake(0, 0, 3), UNKNOWN);
        due("curl: UNKNOWN ahead of OUTSIDE", x.curl(3, -1, true), UNKNOWN);
        due("curl: OUTSIDE ahead of FULL", x.curl(1, 17, true), OUTSIDE);
        due("join: UNKNOWN (one twice) ahead of FULL", x.join(1, 1), UNKNOWN);
        due("salt: UNKNOWN ahead of NOT", x.salt(0, 3, true), UNKNOWN);
        due("write: UNKNOWN ahead of OUTSIDE", x.write(3, 9), UNKNOWN);
        due("write: UNKNOWN ahead of FULL", x.write(3, 8), UNKNOWN);
        due("write: OUTSIDE ahead of FULL", x.write(0, 9), OUTSIDE);
        due("goBack: UNKNOWN ahead of NOT", x.goBack(2), UNKNOWN);
        due("drift: OUTSIDE ahead of NOT", new PretzelProof().drift(0), OUTSIDE);
        due("drift: OUTSIDE ahead of NOT", new PretzelProof().drift(31), OUTSIDE);
        due("feed: OUTSIDE ahead of FULL", withFullText().feed(256), OUTSIDE);
        due("feed: OUTSIDE ahead of FULL", withFullText().feed(-1), OUTSIDE);
    }

    private static void refusedAreUnknown() {
        at("Terms: UNKNOWN, 'one twice, where two are asked'");
        PretzelProof x = laid("u9;kAa;k;");
        for (int k = 0; k < 2; k++) {
            due("join(k, k)", x.join(k, k), UNKNOWN);
            due("same(k, k)", x.same(k, k), UNKNOWN);
            due("tells(k, k)", x.tells(k, k), UNKNOWN);
        }
        due("shake(0, 0, 0) asks for one crossing", x.shake(0, 0, 0), 0);
        at("Terms: UNKNOWN, 'an IMAGE that there is not'");
        due("keep(2)", x.keep(2), UNKNOWN);
        due("goBack(2)", x.goBack(2), UNKNOWN);
    }

    /** An object that has something of all: salt and an empty bin, a full book, an image, changes, a fault, a text. */
    private static PretzelProof busy() {
        PretzelProof x = laid("u2;k" + TREFOIL + ";k" + OVERS_THEN_UNDERS + ";k;");
        x.seed(5);
        x.keep(0);
        x.salt(0, 1, true);
        x.salt(1, 7, true);
        x.roll(0);
        for (int i = 0; i < 14; i++) {
            x.write(0, 3);
        }
        x.write(1, 7);
        trayOf(x, "u;");
        feedAll(x, "u7;kZz;");
        return x;
    }

    private static PretzelProof withFullText() {
        PretzelProof x = laid("u7;kAa;");
        for (int i = 0; i < 240; i++) {
            x.feed(' ');
        }
        return x;
    }

    private static void dueUnchanged(String name, int want, Call refused) {
        PretzelProof x = busy();
        due(name, refused.on(x), want);
        due("all behind " + name, everything(x), everything(busy()));
    }

    private static void refusedChangesNothing() {
        at("Terms: 'What is refused changes nothing'");
        dueUnchanged("feed(-1)", OUTSIDE, x -> x.feed(-1));
        dueUnchanged("feed(256)", OUTSIDE, x -> x.feed(256));
        dueUnchanged("told(9)", OUTSIDE, x -> x.told(9));
        dueUnchanged("pretzel(3, 0)", UNKNOWN, x -> x.pretzel(3, 0));
        dueUnchanged("pretzel(0, 7)", OUTSIDE, x -> x.pretzel(0, 7));
        dueUnchanged("pass(3, 0)", UNKNOWN, x -> x.pass(3, 0));
        dueUnchanged("moves(3, 0)", UNKNOWN, x -> x.moves(3, 0));
        dueUnchanged("shake(3, 0, 0)", UNKNOWN, x -> x.shake(3, 0, 0));
        dueUnchanged("shake(0, 0, 3)", UNKNOWN, x -> x.shake(0, 0, 3));
        dueUnchanged("shake(0, 0, 1), no move", NOT, x -> x.shake(0, 0, 1));
        dueUnchanged("shake(1, 6, 7), salted", NOT, x -> x.shake(1, 6, 7));
        dueUnchanged("curl(3, 0, true)", UNKNOWN, x -> x.curl(3, 0, true));
        dueUnchanged("curl(0, 7, true)", OUTSIDE, x -> x.curl(0, 7, true));
        dueUnchanged("curl(1, 0, true)", FULL, x -> x.curl(1, 0, true));
        dueUnchanged("turn(3, 0)", UNKNOWN, x -> x.turn(3, 0));
        dueUnchanged("turn(0, 3)", UNKNOWN, x -> x.turn(0, 3));
        dueUnchanged("reverse(3)", UNKNOWN, x -> x.reverse(3));
        dueUnchanged("mirror(3)", UNKNOWN, x -> x.mirror(3));
        dueUnchanged("roll(3)", UNKNOWN, x -> x.roll(3));
        dueUnchanged("join(0, 0)", UNKNOWN, x -> x.join(0, 0));
        dueUnchanged("join(0, 3)", UNKNOWN, x -> x.join(0, 3));
        dueUnchanged("join(0, 1)", FULL, x -> x.join(0, 1));
        dueUnchanged("salt(0, 3, true)", UNKNOWN, x -> x.salt(0, 3, true));
        dueUnchanged("salt(0, 0, true), so already", NOT, x -> x.salt(0, 0, true));
        dueUnchanged("salt(0, 1, true), no grain", NOT, x -> x.salt(0, 1, true));
        dueUnchanged("salt(0, 1, false), so already", NOT, x -> x.salt(0, 1, false));
        dueUnchanged("drift(0)", OUTSIDE, x -> x.drift(0));
        dueUnchanged("drift(31)", OUTSIDE, x -> x.drift(31));
        dueUnchanged("toShake(3, 0)", UNKNOWN, x -> x.toShake(3, 0));
        dueUnchanged("toShake(0, 4)", OUTSIDE, x -> x.toShake(0, 4));
        dueUnchanged("within(0, 3)", UNKNOWN, x -> x.within(0, 3));
        dueUnchanged("same(0, 0)", UNKNOWN, x -> x.same(0, 0));
        dueUnchanged("tells(0, 3)", UNKNOWN, x -> x.tells(0, 3));
        dueUnchanged("words(3, 0)", UNKNOWN, x -> x.words(3, 0));
        dueUnchanged("colour(3, 0)", UNKNOWN, x -> x.colour(3, 0));
        dueUnchanged("whole(61, 0)", OUTSIDE, x -> x.whole(61, 0));
        dueUnchanged("write(3, 0)", UNKNOWN, x -> x.write(3, 0));
        dueUnchanged("write(0, 9)", OUTSIDE, x -> x.write(0, 9));
        dueUnchanged("write(0, 3)", FULL, x -> x.write(0, 3));
        dueUnchanged("seed(-1)", OUTSIDE, x -> x.seed(-1));
        dueUnchanged("keep(2)", UNKNOWN, x -> x.keep(2));
        dueUnchanged("goBack(2)", UNKNOWN, x -> x.goBack(2));
        dueUnchanged("goBack(1)", NOT, x -> x.goBack(1));
        PretzelProof fed = withFullText();
        due("feed(32) to 240", fed.feed(32), FULL);
        due("all behind feed(32) to 240", everything(fed), everything(withFullText()));
        PretzelProof fresh = new PretzelProof();
        due("undo() of none", fresh.undo(), NOT);
        due("drift(1) without a tray", fresh.drift(1), NOT);
        due("all of a new object then", everything(fresh), everything(new PretzelProof()));
    }

    private static void constants() {
        at("Terms: 'NONE is -1'");
        due("NONE", PretzelProof.NONE, -1);
        at("Terms: REFUSALS are 'far below all that is counted: -1000000001 and on'");
        due("UNKNOWN", PretzelProof.UNKNOWN, -1000000001);
        due("OUTSIDE", PretzelProof.OUTSIDE, -1000000002);
        due("NOT", PretzelProof.NOT, -1000000003);
        due("FULL", PretzelProof.FULL, -1000000004);
    }

    // ---- 1 the tray

    private static String blanks(int many) {
        return " ".repeat(many);
    }

    private static void textLength() {
        at("Terms 1: 'a text (240 letters at most)'");
        dueFault("u5;" + blanks(233) + "kAa;", 1, NONE);
        dueFault("u5;kAa" + blanks(233) + ";", 1, NONE);
        dueFault("u5;kAa;" + blanks(232) + "x", -11, 239);
        dueFault("u5;kAa" + blanks(234), -11, 240);
        PretzelProof x = laid("u7;kAa;");
        due("tray() of 240 letters", trayOf(x, "u5;kAa;" + blanks(233) + "x"), 1);
        due("grains then: the 241st was not taken", x.told(2), 5);
    }

    private static void salt() {
        at("Terms 1: 'S grains in the bin, 0 .. 99; a number of one to three figures'");
        String[] good = {"0", "00", "000", "1", "9", "09", "009", "10", "99", "099"};
        for (String number : good) {
            dueFault("u" + number + ";", 0, NONE);
            due("grains of u" + number, laid("u" + number + ";").told(2), Integer.parseInt(number));
        }
        at("Terms 1: 'u' is 'first, once'");
        dueFault("k;u5;", -11, 0);
        dueFault("u5;u5;", -13, 3);
        dueFault("u5;k;u5;", -13, 5);
    }

    private static void pretzels() {
        at("Terms 1: '5 PRETZELS at most'");
        dueFault("u0;", 0, NONE);
        dueFault("u0;k;", 1, NONE);
        dueFault("u0;kAa;kAa;kAa;kAa;kAa;", 5, NONE);
        dueFault("u0;kAa;kAa;kAa;kAa;kAa;kAa;", -13, 23);
        at("Terms 1: letters of a THREAD, 'none: a plain one'");
        PretzelProof x = laid("u0;k;k   ;");
        due("both are plain", x.told(5), 3);
        dueThread("a plain one", x, 0, "");
    }

    private static void names() {
        at("Terms 1: 'a great letter A .. Z is OVER, a small one a .. z UNDER'");
        PretzelProof x = laid("u0;kAazZ;kaAZz;");
        dueThread("A, a, z, Z", x, 0, "AabB");
        dueThread("a, A, Z, z", x, 1, "aABb");
        for (int name = 0; name < 26; name++) {
            dueFault("u0;k" + GREATS.charAt(name) + SMALLS.charAt(name) + ";", 1, NONE);
        }
        at("Terms 1: 'eight names at most'");
        dueFault("u0;kSTUVWXYZstuvwxyz;", 1, NONE);
        dueFault("u0;kSTUVWXYZstuvwxyzr", -13, 20);
        dueFault("u0;kSTUVWXYZRstuvwxyzr;", -13, 12);
        dueFault("u0;kABCDEFGHabcdefgh;kIJKLMNOPijklmnop;kQRSTUVWXqrstuvwx;", 3, NONE);
        at("Terms 1: 'each name comes once great, once small'");
        dueFault("u0;kAbaB;", 1, NONE);
        dueFault("u0;kAbAB;", -14, 6);
        dueFault("u0;kAbab;", -14, 7);
        dueFault("u0;kAbB;", -15, 7);
    }

    private static void blanks() {
        at("Terms 1: 'Blanks (32) may stand anywhere but within a number'");
        String text = "u12;kaBcAbC;k;";
        for (int i = 0; i <= text.length(); i++) {
            String with = text.substring(0, i) + "  " + text.substring(i);
            boolean within = i == 2;
            dueFault(with, within ? -11 : 2, within ? 4 : NONE);
            if (!within) {
                dueThread("'" + with + "'", laid(with), 0, TREFOIL);
                due("grains of '" + with + "'", laid(with).told(2), 12);
            }
        }
        dueFault(" u 12 ; k a B c A b C ; k ; ", 2, NONE);
        for (int sign : new int[] {0, 9, 10, 13, 31, 33, 160}) {
            dueFault((char) sign + text, -11, 0);
            dueFault("u12;ka" + (char) sign + "A;", -11, 6);
        }
    }

    /** Each of the 256 letters behind a text: it fits, it has the fault whose letters name it, or fault 1. */
    private static void dueLetters(String ahead, String fits, String third, String fourth, String fifth) {
        for (int letter = 0; letter < 256; letter++) {
            PretzelProof x = new PretzelProof();
            feedAll(x, ahead);
            x.feed(letter);
            int answer = x.tray();
            String call = "tray() of '" + ahead + "' and the letter " + letter;
            int fault = third.indexOf(letter) >= 0 ? 3 : fourth.indexOf(letter) >= 0 ? 4 : fifth.indexOf(letter) >= 0 ? 5 : 1;
            if (fits.indexOf(letter) >= 0) {
                boolean fit = answer >= 0 && x.fault() == NONE || answer == -11 && x.fault() == ahead.length() + 1;
                due(call + " fits", fit ? 1 : 0, 1);
            } else {
                due(call, answer, -10 - fault);
                due("fault() of " + call, x.fault(), ahead.length());
            }
        }
    }

    private static void lettersByPlace() {
        at("Terms 1, FAULTS: '1 it cannot stand there (a letter that is no word, another word first than 'u')'");
        dueLetters("", "u ", "", "", "");
        dueLetters("u", FIGURES + " ", "", "", "");
        dueLetters("u ", FIGURES + " ", "", "", "");
        dueLetters("u5", FIGURES + "; ", "", "", "");
        dueLetters("u09", FIGURES + "; ", "", "", "");
        dueLetters("u5 ", "; ", "", "", "");
        dueLetters("u5;", "k ", "u", "", "");
        dueLetters("u5;k;", "k ", "u", "", "");
        dueLetters("u5;k;k;k;k;k;", " ", "uk", "", "");
        dueLetters("u5;k", GREATS + SMALLS + "; ", "", "", "");
        dueLetters("u5;kA", GREATS.substring(1) + SMALLS + " ", "", "A", ";");
        dueLetters("u5;kAa", GREATS.substring(1) + SMALLS.substring(1) + "; ", "", "Aa", "");
        dueLetters("u5;kABCDEFGH", "abcdefgh ", GREATS.substring(8) + SMALLS.substring(8), "ABCDEFGH", ";");
    }

    private static void faultsByPlace() {
        at("Terms 1: 'FAULTS, at the first letter that has one'");
        dueFault("u5;kAA;kB;", -14, 5);
        dueFault("u5;kB;kAA;", -15, 5);
        dueFault("u100;kAA;", -12, 1);
        dueFault("u5;kA;u?", -15, 5);
        dueFault("?u100;", -11, 0);
        at("Terms 1: FAULTS, 'the end at the text's length'");
        String text = "u12;kAa;k;";
        for (int length = 1; length < text.length(); length++) {
            boolean open = length != 4 && length != 8;
            int answer = length == 4 ? 0 : length == 8 ? 1 : -11;
            dueFault(text.substring(0, length), answer, open ? length : NONE);
            dueFault(text.substring(0, length) + "   ", answer, open ? length + 3 : NONE);
        }
        at("Terms 1: FAULTS, 'of these the least'");
        dueFault("uu5;", -11, 1);
        dueFault("u5u5;", -11, 2);
        dueFault("u5 u5;", -11, 3);
        dueFault("u5k;", -11, 2);
        dueFault("u1000k", -12, 1);
    }

    private static void faultOne() {
        at("Terms 1, FAULTS: '1 ... another word first than 'u''");
        dueFault("k;", -11, 0);
        dueFault("  k;", -11, 2);
        dueFault(";", -11, 0);
        dueFault("5;", -11, 0);
        at("Terms 1, FAULTS: '1 it cannot stand there'");
        dueFault("u;", -11, 1);
        dueFault("u-5;", -11, 1);
        dueFault("u+5;", -11, 1);
        dueFault("u5;;", -11, 3);
        dueFault("u5;k;;", -11, 5);
        dueFault("u5;kA5", -11, 5);
    }

    private static void faultTwo() {
        at("Terms 1, FAULTS: '2 a number of four figures or more ... (at its first)'");
        dueFault("u0000;", -12, 1);
        dueFault("u0005;", -12, 1);
        dueFault("u00000;", -12, 1);
        dueFault(" u  0005;", -12, 4);
        dueFault("u" + "0".repeat(239), -12, 1);
        at("Terms 1, FAULTS: '2 a number ... out of its bounds (at its first)'");
        dueFault("u100;", -12, 1);
        dueFault("u999;", -12, 1);
        dueFault(" u  100;", -12, 4);
        dueFault("u100", -12, 1);
        dueFault("u100x", -12, 1);
        dueFault("u4294967301;", -12, 1);
        dueFault("u" + "9".repeat(239), -12, 1);
    }

    private static void faultThree() {
        at("Terms 1, FAULTS: '3 'u' again (at it)'");
        dueFault("u5;u", -13, 3);
        dueFault("u5;  u", -13, 5);
        dueFault("u5;kUu;u", -13, 7);
        at("Terms 1, FAULTS: '3 a sixth 'k' (at it)'");
        dueFault("u5;k;k;k;k;k; k", -13, 14);
        dueFault("u5;kKk;k;k;k;k;", 5, NONE);
        at("Terms 1, FAULTS: '3 a ninth name (at it)'");
        dueFault("u5;kABCDEFGHI", -13, 12);
        dueFault("u5;kabcdefgh i", -13, 13);
        dueFault("u5;kAaBbCcDdEeFfGgHhZ", -13, 20);
    }

    private static void faultFour() {
        at("Terms 1, FAULTS: '4 a letter that came already in that THREAD'");
        dueFault("u5;kAA", -14, 5);
        dueFault("u5;kaa", -14, 5);
        dueFault("u5;kAaA", -14, 6);
        dueFault("u5;kAaa", -14, 6);
        dueFault("u5;kZz Z", -14, 7);
        dueFault("u5;kABCDEFGHA", -14, 12);
        dueFault("u5;kAa;kAa;", 2, NONE);
    }

    private static void faultFive() {
        at("Terms 1, FAULTS: '5 the ';' where a name came but once'");
        dueFault("u5;kA;", -15, 5);
        dueFault("u5;ka;", -15, 5);
        dueFault("u5;kZ ;", -15, 6);
        dueFault("u5;kAaB;", -15, 7);
        dueFault("u5;kAb;", -15, 6);
        dueFault("u5;k;kA;", -15, 7);
        dueFault("u5;kABCDEFGHabcdefg;", -15, 19);
        dueFault("u5;kA", -11, 5);
    }

    private static void noTray() {
        at("Terms 1: 'An empty text (or one of blanks alone): no TRAY'");
        for (String text : new String[] {"", " ", blanks(240)}) {
            PretzelProof x = laid("u7;kAa;");
            x.salt(0, 0, true);
            x.write(0, 1);
            x.keep(0);
            x.roll(0);
            due("tray() of " + text.length() + " blanks", trayOf(x, text), 0);
            due("all behind it", everything(x), everything(new PretzelProof()));
            x = laid("u7;kAa;");
            trayOf(x, text);
            due("drift(1) behind it", x.drift(1), NOT);
            due("a tray behind it", trayOf(x, "u5;k;"), 1);
            due("drift(1) with a tray again", x.drift(1) == NOT ? 1 : 0, 0);
        }
    }

    // ---- 2 a thread

    private static void threadGoesRound() {
        at("Terms 2: 'it goes round: behind the last is the first'");
        due("a curl of the last and the first pass", movesOf(laid("u0;kaBbA;"), 0), "0 11");
        due("a poke, its passes over the last and the first", movesOf(laid("u0;kAcabCB;"), 0), "2");
        due("a poke, its passes under the last and the first", movesOf(laid("u0;kaCABcb;"), 0), "2");
        due("no poke, of which one end is not round", movesOf(laid("u0;kAcaCbB;"), 0), "22");
        PretzelProof x = laid("u0;kaCABcb;");
        due("shaken by it", x.shake(0, 0, 2), 1);
        dueThread("shaken by it", x, 0, "Aa");
        at("Terms 3: PARTS 'from one UNDER to the next one', round the end");
        PretzelProof y = laid("u0;k" + TREFOIL + ";k" + EIGHT + ";");
        for (int i = 0; i < 8; i++) {
            due("colours by 3 of a trefoil, rolled " + i, y.pretzel(0, 2), 9);
            due("colours by 5 of an eight, rolled " + i, y.pretzel(1, 3), 25);
            y.roll(0);
            y.roll(1);
        }
    }

    private static PretzelProof numbered() {
        PretzelProof x = laid("u9;kzYyZxX;kBaAb;");
        x.salt(0, 0, true);
        return x;
    }

    private static void dueRope(String what, PretzelProof x, String thread, int salted) {
        dueThread(what, x, 0, thread);
        due(what + ": salted", x.pretzel(0, 1), salted);
    }

    private static void numberedAnew() {
        at("Terms 2: 'CROSSINGS are numbered as they come first in its THREAD'");
        dueRope("as told", numbered(), "aBbAcC", 1);
        at("Terms 2: 'whenever that changes, they are numbered anew'");
        PretzelProof x = numbered();
        x.roll(0);
        dueRope("rolled", x, "AaBcCb", 2);
        x = numbered();
        x.reverse(0);
        dueRope("reversed", x, "AaBcCb", 2);
        x = numbered();
        x.curl(0, 0, false);
        dueRope("curled", x, "aAbCcBdD", 2);
        x = numbered();
        x.salt(0, 2, true);
        x.shake(0, 1, 1);
        dueRope("shaken", x, "aAbB", 3);
        x = numbered();
        x.join(1, 0);
        x.join(0, 1);
        dueRope("joined", x, "AbBacDdCeE", 4);
        x = numbered();
        x.turn(0, 0);
        dueRope("switched", x, "ABbacC", 1);
        x.mirror(0);
        dueRope("mirrored", x, "abBACc", 1);
    }

    private static void saltedAtFirst() {
        at("Terms 2: 'A CROSSING is SALTED, or not (not at first)'");
        PretzelProof x = laid("u9;kAa;");
        due("of a tray", x.pretzel(0, 1), 0);
        x.salt(0, 0, true);
        x.curl(0, 0, true);
        due("of a new curl ahead of a salted one", x.pretzel(0, 1), 2);
        trayOf(x, "u9;kAaBb;");
        due("of the next tray", x.pretzel(0, 1), 0);
        x.salt(0, 0, true);
        x.salt(0, 1, true);
        x.salt(0, 0, false);
        x.shake(0, 0, 0);
        x.curl(0, 2, true);
        due("of a new curl behind a salted one", x.pretzel(0, 1), 1);
    }

    private static void saltedStays() {
        at("Terms 2: 'None that is SALTED goes'");
        PretzelProof x = laid("u9;kAa;kABab;");
        x.salt(0, 0, true);
        due("a salted curl", x.moves(0, NONE), 0);
        due("shake of a salted curl", x.shake(0, 0, 0), NOT);
        due("a poke", movesOf(x, 1), "1");
        for (int c = 0; c < 2; c++) {
            x.salt(1, c, true);
            due("a poke with salt on " + c, x.moves(1, NONE), 0);
            due("shake with salt on " + c, x.shake(1, 0, 1), NOT);
            due("left with salt on " + c, x.toShake(1, 0), 2);
            x.salt(1, c, false);
        }
        due("none can be left empty but the poke", x.told(6), 2);
        due("shake without salt", x.shake(1, 0, 1), 0);
    }

    private static void curled() {
        at("Terms 2: 'CURLED: ... OVER first or UNDER first'");
        for (int i = 0; i <= 4; i++) {
            for (boolean overFirst : new boolean[] {true, false}) {
                PretzelProof x = laid("u9;kBDdb;");
                x.curl(0, i, overFirst);
                String with = "BDdb".substring(0, i) + (overFirst ? "Zz" : "zZ") + "BDdb".substring(i);
                dueThread("curled ahead of " + i, x, 0, thread(laid("u9;k" + with + ";"), 0));
            }
        }
    }

    private static void joined() {
        at("Terms 2: JOINED, 'its CROSSINGS are other ones, SALTED as they were'");
        PretzelProof x = laid("u9;kABab;kABba;k;");
        x.salt(0, 1, true);
        x.salt(1, 0, true);
        x.join(0, 1);
        dueRope("joined", x, "ABabCDdc", 6);
        at("Terms 2: JOINED, 'the other one is plain then'");
        dueThread("the other one", x, 1, "");
        due("salt of the other one", x.pretzel(1, 1), 0);
        due("plain ones", x.told(5), 6);
        x.curl(1, 0, true);
        due("salt of what comes on the other one", x.pretzel(1, 1), 0);
    }

    private static void grains() {
        at("Terms 2: 'SALT is strewn on a CROSSING (a grain from the bin), or taken off (back into it)'");
        PretzelProof x = laid("u1;kABab;");
        due("the last grain", x.salt(0, 1, true), 0);
        due("none is left", x.salt(0, 0, true), NOT);
        due("back into an empty bin", x.salt(0, 1, false), 1);
        due("strewn elsewhere", x.salt(0, 0, true), 0);
        PretzelProof y = laid("u99;kAa;");
        due("one of 99", y.salt(0, 0, true), 98);
        due("99 again", y.salt(0, 0, false), 99);
    }

    // ---- 3 tried

    private static void triedChangesNothing() {
        at("Terms 3: 'TRIED; nothing changes by it'");
        PretzelProof x = busy();
        for (int k = 0; k < 3; k++) {
            for (int what = 0; what < 7; what++) {
                x.pretzel(k, what);
                x.toShake(k, what);
                x.moves(k, what);
                x.words(k, what);
                x.colour(k, what);
                x.within(k, what);
            }
            x.same(k, 2);
            x.tells(k, 2);
        }
        x.told(6);
        x.whole(60, 50);
        x.judge();
        due("all behind it", everything(x), everything(busy()));
        PretzelProof y = laid("u9;k" + TREFOIL + ";k" + CURLS + ";");
        due("moves of another one", y.moves(1, NONE), 8);
        due("switches behind that", y.pretzel(0, 5), 1);
    }

    private static void moves() {
        at("Terms 3: MOVES 'as numbers 10 times a CROSSING and the other one (a CURL: twice the same; the lesser first), rising'");
        PretzelProof x = laid("u0;k" + NESTED + ";k" + CURLS + ";k" + OVERS_THEN_UNDERS + ";k" + TREFOIL + ";k;");
        due("nested", movesOf(x, 0), "0 1 12 23 34 45 56 67 77");
        due("curls", movesOf(x, 1), "0 11 22 33 44 55 66 77");
        due("overs, then unders", movesOf(x, 2), "1 12 23 34 45 56 67");
        due("how many of none", x.moves(3, NONE), 0);
        due("how many of a plain one", x.moves(4, NONE), 0);
        due("both curls and their poke", movesOf(laid("u0;kABba;"), 0), "0 1 11");
        at("Terms 3: MOVES, 'the i-th; NONE'");
        due("the last of nine", x.moves(0, 8), 77);
        due("behind the last of nine", x.moves(0, 9), NONE);
        due("of none", x.moves(3, 0), NONE);
        due("of a plain one", x.moves(4, 0), NONE);
    }

    private static void dueShake(String thread, int fewest, int moves, int sets, int first) {
        dueShake(laid("u0;k" + thread + ";"), thread, fewest, moves, sets, first);
    }

    private static void dueShakeSalted(String thread, int salted, int fewest, int moves, int sets, int first) {
        PretzelProof x = laid("u1;k" + thread + ";");
        x.salt(0, salted, true);
        dueShake(x, thread + " with salt on " + salted, fewest, moves, sets, first);
    }

    private static void dueShake(PretzelProof x, String thread, int fewest, int moves, int sets, int first) {
        due("fewest crossings of '" + thread + "'", x.toShake(0, 0), fewest);
        due("fewest moves of '" + thread + "'", x.toShake(0, 1), moves);
        due("sets of '" + thread + "'", x.toShake(0, 2), sets);
        due("first move of '" + thread + "'", x.toShake(0, 3), first);
    }

    private static void shake() {
        at("Terms 3: SHAKE, 'how many SETS can be left (all of them, too)', 'NONE: none is needed'");
        dueShake("", 0, 0, 1, NONE);
        dueShake(TREFOIL, 3, 0, 1, NONE);
        dueShake(CURLS, 0, 8, 256, 0);
        at("Terms 3: SHAKE, 'the fewest MOVES to so few', 'the first MOVE (the least number)'");
        dueShake("Aa", 0, 1, 2, 0);
        dueShake("ABab", 0, 1, 2, 1);
        dueShake("ABba", 0, 1, 4, 1);
        dueShake("aABCbc", 0, 2, 4, 0);
        dueShake("ABabcC", 0, 2, 4, 1);
        dueShake(TREFOIL + "dD", 3, 1, 2, 33);
        dueShake("abcDeABCdE", 3, 1, 3, 1);
        dueShake("aBCDebFfcdAE", 3, 2, 5, 23);
        at("Terms 3: SHAKE, 'the first MOVE of a row of so few MOVES to so few', where like few ones can be left as other SETS");
        dueShakeSalted("AbBcdeaCDE", 2, 2, 2, 6, 4);
        dueShakeSalted("ABCDebafEcdFGg", 4, 2, 3, 10, 1);
        dueShakeSalted("abcdefCDEFBgGA", 5, 2, 3, 15, 23);
        dueShakeSalted("ABCDEFcfedbghGHa", 2, 2, 3, 15, 34);
        at("Terms 3: SHAKE 'by the numbers that CROSSINGS have now'");
        dueShake("ABCabc", 0, 2, 4, 1);
        at("Terms 3: SHAKE, and 'None that is SALTED goes'");
        PretzelProof x = laid("u9;kABCabc;");
        x.salt(0, 0, true);
        due("fewest crossings with salt", x.toShake(0, 0), 1);
        due("first move with salt", x.toShake(0, 3), 12);
        x.salt(0, 1, true);
        due("fewest crossings, no move left", x.toShake(0, 0), 3);
        due("fewest moves, no move left", x.toShake(0, 1), 0);
        due("sets, no move left", x.toShake(0, 2), 1);
        due("first move, no move left", x.toShake(0, 3), NONE);
    }

    private static void dueColours(String thread, int by3, int by5) {
        PretzelProof x = laid("u0;k" + thread + ";");
        due("colours by 3 of '" + thread + "'", x.pretzel(0, 2), by3);
        due("colours by 5 of '" + thread + "'", x.pretzel(0, 3), by5);
    }

    private static void colours() {
        at("Terms 3: PARTS, 'a plain one has 1'");
        dueColours("", 3, 5);
        at("Terms 3: PARTS, 'as many as CROSSINGS'");
        dueColours("Aa", 3, 5);
        dueColours("aA", 3, 5);
        dueColours("aABb", 3, 5);
        dueColours(TREFOIL, 9, 5);
        dueColours(EIGHT, 3, 25);
        dueColours(TREFOIL + "dEfDeF", 27, 5);
        dueColours(EIGHT + "eFgEhGfH", 3, 125);
        dueColours(OVERS_THEN_UNDERS, 3, 5);
        at("Terms 3: COLOURS, 'No MOVE changes it'");
        dueColours(TREFOIL + "Dd", 9, 5);
        dueColours("eEfF" + EIGHT, 3, 25);
        PretzelProof x = laid("u0;k" + NESTED + ";");
        for (int c = 7; c >= 0; c--) {
            due("by 3 with " + (c + 1), x.pretzel(0, 2), 3);
            due("by 5 with " + (c + 1), x.pretzel(0, 3), 5);
            x.shake(0, c, c);
        }
        due("all are shaken out", x.pretzel(0, 0), 0);
    }

    private static void dueWeak(String thread, int weak, int switches) {
        PretzelProof x = laid("u9;k" + thread + ";");
        due("weak of '" + thread + "'", x.pretzel(0, 4), weak);
        due("switches of '" + thread + "'", x.pretzel(0, 5), switches);
    }

    private static void weakAndSwitches() {
        at("Terms 3: WEAK, 'of which one alone, SWITCHED, lets all be shaken out'");
        dueWeak("", 0, 0);
        dueWeak("Aa", 1, 0);
        dueWeak(TREFOIL, 7, 1);
        dueWeak(EIGHT, 15, 1);
        dueWeak("ABaCbc", 5, 1);
        dueWeak(OVERS_THEN_UNDERS, 255, 0);
        at("Terms 3: SWITCHES, 'a SET; of like ones the least'");
        dueWeak("ABcDadCb", 14, 2);
        at("Terms 3: SWITCHES, 'the fewest CROSSINGS', though more of lesser numbers would do, too");
        dueWeak("ABCadEbDec", 24, 8);
        dueWeak("AbCdBaEcDe", 12, 4);
        at("Terms 3: SWITCHES, 'a SET; of like ones the least'");
        dueWeak("aBcDeAbCdE", 0, 3);
        dueWeak("aBcDeFgAbCdEfG", 0, 7);
        dueWeak(TREFOIL + "dEfDeF", 0, 9);
        dueWeak("abCDBEfcAgHFGhed", 0, 82);
        dueWeak("dD" + TREFOIL, 14, 2);
        at("Terms 3: SWITCHES, '0: none need be; NONE: by none'");
        dueWeak("ABab", 3, 0);
        dueWeak("ABaCbDcd", 0, NONE);
        dueWeak("AaBcdCeDbE", 0, NONE);
        at("Terms 3: WEAK and SWITCHES, 'SALT is no matter here'");
        PretzelProof x = laid("u9;k" + TREFOIL + ";kABab;");
        for (int c = 0; c < 5; c++) {
            x.salt(c / 3, c % 3, true);
        }
        due("weak with salt on all", x.pretzel(0, 4), 7);
        due("switches with salt on all", x.pretzel(0, 5), 1);
        due("switches of what could be shaken out", x.pretzel(1, 5), 0);
    }

    private static void withinAndOdd() {
        at("Terms 3: WITHIN, 'one PASS is, and the other is not, between both PASSES'");
        PretzelProof x = laid("u0;kABaCcb;kAbBa;k" + OVERS_THEN_UNDERS + ";");
        due("one of a, one of b", x.within(0, 0), 2);
        due("both of c are not", x.within(0, 1), 1);
        due("none is", x.within(0, 2), 0);
        due("both are, from the first pass to the last", x.within(1, 0), 0);
        for (int c = 0; c < 8; c++) {
            due("all others", x.within(2, c), 255 - (1 << c));
        }
        at("Terms 3: ODD, 'an odd number of those WITHIN'");
        due("one, one, none", x.pretzel(0, 6), 3);
        due("none", x.pretzel(1, 6), 0);
        due("seven each", x.pretzel(2, 6), 255);
        due("two each", laid("u0;kABCabc;").pretzel(0, 6), 0);
        due("a plain one", laid("u0;k;").pretzel(0, 6), 0);
    }

    private static int sameOf(String one, String other) {
        return laid("u0;k" + one + ";k" + other + ";").same(0, 1);
    }

    private static void same() {
        at("Terms 3: SAME, '1 ... by ROLLING; 2 ... REVERSED; 4, MIRRORED; 8, both (together)'");
        String thread = "AaBcbC";
        due("as it is", sameOf(thread, thread), 1);
        for (int i = 0; i < 6; i++) {
            String rolled = thread.substring(i) + thread.substring(0, i);
            String back = new StringBuilder(rolled).reverse().toString();
            due("rolled by " + i, sameOf(thread, rolled), 1);
            due("reversed by " + i, sameOf(thread, back), 2);
            due("mirrored by " + i, sameOf(thread, swapped(rolled)), 4);
            due("both by " + i, sameOf(thread, swapped(back)), 8);
        }
        due("all", sameOf(TREFOIL, "AbCaBc"), 15);
        due("as many, but none", sameOf(TREFOIL, "ABCabc"), 0);
        due("more", sameOf("AaBb", "AaBbCc"), 0);
        due("fewer", sameOf("AaBbCc", "AaBb"), 0);
        at("Terms 3: SAME, of plain ones");
        due("two plain ones", sameOf("", ""), 15);
        due("a plain one and another", sameOf("", "Aa"), 0);
        due("another and a plain one", sameOf("Aa", ""), 0);
        at("Terms 3: SAME, of what was longer");
        PretzelProof shorter = laid("u9;kAaBb;kaA;");
        shorter.shake(0, 1, 1);
        due("the shorter one and another", shorter.same(0, 1), 15);
        due("another and the shorter one", shorter.same(1, 0), 15);
        at("Terms 3: SAME, '(numbered anew)'");
        due("other names", sameOf("AaBcbC", "YyXzxZ"), 1);
        at("Terms 3: SAME, 'SALT is no matter'");
        PretzelProof x = laid("u9;kAaBcbC;kAaBcbC;");
        x.salt(0, 0, true);
        due("salt on one", x.same(0, 1), 1);
        x.salt(1, 1, true);
        due("salt on both", x.same(1, 0), 1);
    }

    private static String swapped(String thread) {
        StringBuilder other = new StringBuilder();
        for (char letter : thread.toCharArray()) {
            other.append((char) (letter ^ 32));
        }
        return other.toString();
    }

    private static void dueTells(String one, String other, int want) {
        PretzelProof x = laid("u9;k" + one + ";k" + other + ";");
        due("tells of '" + one + "' and '" + other + "'", x.tells(0, 1), want);
        due("tells of '" + other + "' and '" + one + "'", x.tells(1, 0), want);
    }

    private static void tells() {
        at("Terms 3: TELLS, '1, if COLOURS by 3 are unlike, 2, if by 5, 4, if the fewest CROSSINGS ... (together)'");
        dueTells("", "", 0);
        dueTells("", NESTED, 0);
        dueTells(TREFOIL, "ABaCbc", 1);
        dueTells(EIGHT, "ABaCbDcd", 2);
        dueTells("ABacDbCd", EIGHT, 3);
        dueTells("", "ABaCbc", 4);
        dueTells(TREFOIL, "", 5);
        dueTells(EIGHT, "", 6);
        dueTells(TREFOIL, EIGHT, 7);
        at("Terms 3: TELLS, 'without SALT'");
        PretzelProof x = laid("u9;kABab;k;");
        x.salt(0, 0, true);
        due("what salt holds", x.tells(0, 1), 0);
        due("what salt holds", x.tells(1, 0), 0);
    }

    private static String wordsOf(String thread) {
        PretzelProof x = laid("u0;k" + thread + ";");
        StringBuilder row = new StringBuilder();
        for (int i = 0; i <= thread.length(); i++) {
            row.append(x.words(0, i)).append(' ');
        }
        return row.toString().strip();
    }

    private static void words() {
        at("Terms 3: WORDS, 'of these the least, number by number: its i-th; NONE'");
        due("of a plain one", wordsOf(""), "-1");
        due("of one crossing", wordsOf("Aa"), "0 1 -1");
        due("of one crossing, rolled", wordsOf("aA"), "0 1 -1");
        due("of nested ones", wordsOf("ABba"), "0 1 3 2 -1");
        due("of overs, then unders", wordsOf("ABab"), "0 2 1 3 -1");
        due("of a trefoil", wordsOf("AbCaBc"), "0 3 4 1 2 5 -1");
        String row = wordsOf("AaBcbC");
        for (int i = 1; i < 6; i++) {
            due("rolled by " + i, wordsOf("AaBcbC".substring(i) + "AaBcbC".substring(0, i)), row);
        }
        due("of one that differs late", row, "0 2 1 5 4 3 -1");
    }

    private static String coloursOf(String thread) {
        PretzelProof x = laid("u0;k" + thread + ";");
        StringBuilder row = new StringBuilder();
        for (int part = 0; part <= Math.max(1, thread.length() / 2); part++) {
            row.append(x.colour(0, part)).append(' ');
        }
        return row.toString().strip();
    }

    private static void colour() {
        at("Terms 3: COLOUR, 'PART 0 begins behind the first UNDER'");
        due("of a trefoil", coloursOf(TREFOIL), "0 1 2 -1");
        due("with a curl ahead", coloursOf("dD" + TREFOIL), "0 1 2 0 -1");
        due("with a curl behind", coloursOf(TREFOIL + "dD"), "0 1 2 2 -1");
        at("Terms 3: COLOUR, 'the first (PART by PART the lesser)'");
        due("of two trefoils", coloursOf(TREFOIL + "dEfDeF"), "0 0 0 1 2 0 -1");
        due("of a trefoil with two curls", coloursOf("AabCDdeBcE"), "0 1 1 2 0 -1");
        due("of a trefoil with a poke", coloursOf("abcDeABCdE"), "0 1 0 2 1 -1");
        due("of seven crossings", coloursOf("aABCDbedfGEFcg"), "0 0 1 2 2 1 0 -1");
        at("Terms 3: COLOUR, 'not all of one colour', 'NONE: there is none'");
        due("of a plain one", coloursOf(""), "-1 -1");
        due("of one crossing", coloursOf("Aa"), "-1 -1");
        due("of an eight", coloursOf(EIGHT), "-1 -1 -1 -1 -1");
    }

    private static void whole() {
        at("Terms 3: WHOLE, 'n PRETZELS (0 .. 60)', 'q of a hundred (0 .. 100)'");
        PretzelProof x = new PretzelProof();
        due("whole(0, 0)", x.whole(0, 0), 1000000000);
        due("whole(0, 100)", x.whole(0, 100), 1000000000);
        due("whole(1, 0)", x.whole(1, 0), 0);
        due("whole(60, 0)", x.whole(60, 0), 0);
        due("whole(60, 100)", x.whole(60, 100), 1000000000);
        due("whole(1, 99)", x.whole(1, 99), 990000000);
        due("whole(1, 1)", x.whole(1, 1), 10000000);
        at("Terms 3: WHOLE, 'a BILLION times q / 100 each (cut)'");
        due("whole(4, 1)", x.whole(4, 1), 10);
        due("whole(5, 1)", x.whole(5, 1), 0);
        due("whole(6, 43)", x.whole(6, 43), 6321362);
        due("whole(29, 50)", x.whole(29, 50), 1);
        due("whole(30, 50)", x.whole(30, 50), 0);
        due("whole(60, 99)", x.whole(60, 99), 547156620);
    }

    private static void book() {
        at("Terms 3: 'THE BOOK (15 at most)'");
        PretzelProof x = laid("u9;kAa;k;");
        for (int i = 1; i <= 15; i++) {
            due("write", x.write(0, 1), i);
        }
        due("the sixteenth", x.write(0, 1), FULL);
        due("entries", x.told(7), 15);
        at("Terms 3: THE BOOK, 'WRONG: the first that is otherwise now; NONE'");
        due("none is", x.judge(), NONE);
        x.curl(0, 0, true);
        due("all are: the first", x.judge(), 0);
        x.tear();
        for (int i = 0; i < 14; i++) {
            x.write(0, 2);
        }
        x.write(1, 1);
        due("the last of 15", x.judge(), 14);
        x.curl(1, 0, true);
        due("none now", x.judge(), NONE);
    }

    // ---- by draws

    private static int drawn(int seed, int times) {
        long now = seed;
        for (int i = 0; i < times; i++) {
            now = (now * 1103515245L + 12345L) % 2147483648L;
        }
        return (int) now;
    }

    private static int draw(int seed, int time, int of) {
        return drawn(seed, time) / 65536 % of;
    }

    /** A seed of which the first draws are these: each of so many (-1: no matter). */
    private static int seedOf(int[] of, int[] want) {
        for (int seed = 0; seed < 1000000; seed++) {
            boolean fits = true;
            for (int i = 0; i < of.length && fits; i++) {
                fits = want[i] == -1 || draw(seed, i + 1, of[i]) == want[i];
            }
            if (fits) {
                return seed;
            }
        }
        due("a seed was found", 0, 1);
        return 0;
    }

    private static int draws(int from, int to) {
        for (int times = 0; times <= 200; times++) {
            if (drawn(from, times) == to) {
                return times;
            }
        }
        return NONE;
    }

    /** One time by draws: the thread of pretzel k then, and how many draws were made. */
    private static void dueDrift(String what, PretzelProof x, int seed, int k, String thread, int times) {
        x.seed(seed);
        due(what, x.drift(1), x.told(3));
        dueThread(what, x, k, thread);
        due(what + ": draws", draws(seed, x.seed(0)), times);
    }

    private static void seedDrawn() {
        at("Terms 3: 'THE SEED (0 at first'");
        due("of a new object", new PretzelProof().seed(7), 0);
        at("Terms 3: THE SEED, 'left over by 2 to the 31'");
        // Of both the first draw of 5 (0, and 4) shakes or rolls a plain one: two draws, no more.
        PretzelProof x = laid("u0;k;");
        x.drift(1);
        due("two draws from 0", x.seed(HIGH), 1406932606);
        x.drift(1);
        due("two draws from 2147483647", x.seed(0), 288979989);
    }

    private static void draws() {
        at("Terms 3: BY DRAWS, 'n times, if there are PRETZELS'");
        PretzelProof none = laid("u3;");
        none.seed(9);
        due("drift(30) of none", none.drift(30), 0);
        due("no draw is made", none.seed(0), 9);
        at("Terms 3: BY DRAWS, 'n times'");
        PretzelProof once = laid("u3;k" + TREFOIL + ";kABba;k;");
        PretzelProof oneByOne = laid("u3;k" + TREFOIL + ";kABba;k;");
        once.seed(3);
        oneByOne.seed(3);
        due("drift(30)", once.drift(30), lastOfThirty(oneByOne));
        for (int k = 0; k < 3; k++) {
            dueThread("drift(30) and thirty times drift(1)", once, k, thread(oneByOne, k));
        }
        due("the seed then", once.seed(0), oneByOne.seed(0));
        at("Terms 3: BY DRAWS, 'a DRAW of 5, of PRETZELS'");
        for (int k = 0; k < 5; k++) {
            PretzelProof x = laid("u3;kAabB;kAabB;kAabB;kAabB;kAabB;");
            dueDrift("rolled is " + k, x, seedOf(new int[] {5, 5}, new int[] {4, k}), k, "abBA", 2);
            for (int q = 0; q < 5; q++) {
                dueThread(q + " when " + k + " is rolled", x, q, q == k ? "abBA" : "AabB");
            }
        }
    }

    private static int lastOfThirty(PretzelProof x) {
        int crossings = 0;
        for (int i = 0; i < 30; i++) {
            crossings = x.drift(1);
        }
        return crossings;
    }

    private static void drawnShake() {
        at("Terms 3: BY DRAWS, 'on 0 it is SHAKEN by its first MOVE, if there is one'");
        int seed = seedOf(new int[] {5}, new int[] {0});
        dueDrift("the first of four", laid("u9;kABCcba;"), seed, 0, "ABba", 2);
        dueDrift("a poke", laid("u9;kABab;"), seed, 0, "", 2);
        dueDrift("no move", laid("u9;k" + TREFOIL + ";"), seed, 0, TREFOIL, 2);
        dueDrift("a plain one", laid("u9;k;"), seed, 0, "", 2);
        PretzelProof x = laid("u9;kAabB;");
        x.salt(0, 0, true);
        dueDrift("the first without salt", x, seed, 0, "Aa", 2);
        dueDrift("all that is left is salted", x, seed, 0, "Aa", 2);
        due("salt stays", x.pretzel(0, 1), 1);
    }

    private static void drawnCurl() {
        at("Terms 3: BY DRAWS, 'on 1, if it has fewer than eight CROSSINGS, CURLED'");
        String seven = "ABCDEFGabcdefg";
        int behindAll = seedOf(new int[] {5, 1, 15, 2}, new int[] {1, 0, 14, 1});
        dueDrift("the eighth, behind all", laid("u9;k" + seven + ";"), behindAll, 0, seven + "Hh", 4);
        int seed = seedOf(new int[] {5}, new int[] {1});
        dueDrift("no ninth", laid("u9;k" + OVERS_THEN_UNDERS + ";"), seed, 0, OVERS_THEN_UNDERS, 2);
        at("Terms 3: BY DRAWS, 'ahead of a DRAW of how many PASSES it has and 1, OVER first if a DRAW of 2 is 1'");
        for (int i = 0; i <= 4; i++) {
            for (int over = 0; over < 2; over++) {
                String with = "ABba".substring(0, i) + (over == 1 ? "Zz" : "zZ") + "ABba".substring(i);
                String want = thread(laid("u9;k" + with + ";"), 0);
                int at = seedOf(new int[] {5, 1, 5, 2}, new int[] {1, 0, i, over});
                dueDrift("ahead of " + i, laid("u9;kABba;"), at, 0, want, 4);
            }
        }
        for (int over = 0; over < 2; over++) {
            int at = seedOf(new int[] {5, 1, 1, 2}, new int[] {1, 0, 0, over});
            dueDrift("a plain one", laid("u9;k;"), at, 0, over == 1 ? "Aa" : "aA", 4);
        }
    }

    private static void drawnSwitch() {
        at("Terms 3: BY DRAWS, 'on 2 a DRAW of its CROSSINGS is SWITCHED, if it has any'");
        PretzelProof x = laid("u9;kaCbAcB;");
        dueDrift("the first", x, seedOf(new int[] {5, 1, 3}, new int[] {2, 0, 0}), 0, thread(laid("u9;kACbacB;"), 0), 3);
        x = laid("u9;kaCbAcB;");
        dueDrift("the last", x, seedOf(new int[] {5, 1, 3}, new int[] {2, 0, 2}), 0, thread(laid("u9;kaCBAcb;"), 0), 3);
        x = laid("u9;k;");
        dueDrift("a plain one: no third draw", x, seedOf(new int[] {5}, new int[] {2}), 0, "", 2);
        x = laid("u9;kAa;");
        x.salt(0, 0, true);
        dueDrift("a salted one, too", x, seedOf(new int[] {5, 1, 1}, new int[] {2, 0, 0}), 0, "aA", 3);
    }

    private static void drawnReverseAndRoll() {
        at("Terms 3: BY DRAWS, 'on 3 REVERSED'");
        int reversed = seedOf(new int[] {5}, new int[] {3});
        dueDrift("reversed", laid("u9;kAbBacC;"), reversed, 0, "AabCcB", 2);
        dueDrift("a plain one", laid("u9;k;"), reversed, 0, "", 2);
        at("Terms 3: BY DRAWS, 'on 4 ROLLED'");
        int rolled = seedOf(new int[] {5}, new int[] {4});
        dueDrift("rolled", laid("u9;kAbBacC;"), rolled, 0, "aAbcCB", 2);
        dueDrift("a plain one", laid("u9;k;"), rolled, 0, "", 2);
    }

    // ---- undone, images

    private static PretzelProof changed(Call change) {
        PretzelProof x = laid("u9;kABCcba;kAa;k;");
        x.salt(0, 2, true);
        x.salt(1, 0, true);
        change.on(x);
        return x;
    }

    private static void dueUndone(String name, Call change) {
        PretzelProof before = changed(x -> 0);
        PretzelProof behind = changed(change);
        due("to be undone behind " + name, behind.told(8), 3);
        due("undo() of " + name, behind.undo(), 2);
        due("all of section 2 behind undo() of " + name, state(behind), state(before));
    }

    private static void dueNotUndone(String name, Call call) {
        due("to be undone behind " + name, changed(call).told(8), 2);
    }

    private static void undone() {
        at("Terms 3: UNDONE, 'the latest of shake(), curl(), ... that was not refused: all of section 2 is as ahead of it'");
        dueUndone("shake", x -> x.shake(0, 0, 1));
        dueUndone("curl", x -> x.curl(0, 3, true));
        dueUndone("turn", x -> x.turn(0, 2));
        dueUndone("reverse", x -> x.reverse(0));
        dueUndone("mirror", x -> x.mirror(0));
        dueUndone("roll", x -> x.roll(0));
        dueUndone("join", x -> x.join(0, 1));
        dueUndone("salt", x -> x.salt(0, 0, true));
        dueUndone("salt taken off", x -> x.salt(0, 2, false));
        dueUndone("drift", x -> x.drift(30));
        at("Terms 3: UNDONE, of what changes nothing, too");
        dueUndone("reverse of a plain one", x -> x.reverse(2));
        dueUndone("mirror of a plain one", x -> x.mirror(2));
        dueUndone("roll of a plain one", x -> x.roll(2));
        dueUndone("join of a plain one", x -> x.join(0, 2));
        at("Terms 3: UNDONE, no other calls");
        dueNotUndone("write", x -> x.write(0, 3));
        dueNotUndone("tear", x -> x.tear());
        dueNotUndone("seed", x -> x.seed(9));
        dueNotUndone("feed", x -> x.feed('u'));
        dueNotUndone("toShake", x -> x.toShake(0, 0));
        dueNotUndone("a refused shake", x -> x.shake(0, 1, 2));
        dueNotUndone("a refused drift", x -> x.drift(0));
        at("Terms 3: UNDONE, 'THE SEED stays'");
        PretzelProof x = laid("u9;kAa;");
        x.seed(5);
        x.drift(1);
        x.undo();
        due("the seed of drift", x.seed(0) == 5 ? 1 : 0, 0);
        x.roll(0);
        x.seed(77);
        x.undo();
        due("the seed that was set", x.seed(0), 77);
    }

    private static void undoneSixteen() {
        at("Terms 3: UNDONE, '16 at most are kept, the oldest are lost'");
        String five = ("k" + OVERS_THEN_UNDERS + ";").repeat(5);
        for (int many : new int[] {1, 15, 16, 17, 18, 31, 32, 33, 40}) {
            PretzelProof x = laid("u99;" + five);
            for (int i = 0; i < many; i++) {
                x.salt(i / 8, i % 8, true);
            }
            int kept = Math.min(many, 16);
            due("kept of " + many, x.told(8), kept);
            for (int i = 1; i <= kept; i++) {
                due("undo() of " + many, x.undo(), kept - i);
                due("grains with " + i + " of " + many + " undone", x.told(2), 99 - many + i);
            }
            due("one more of " + many, x.undo(), NOT);
            due("what is lost of " + many, x.told(4), many - kept);
        }
        PretzelProof x = laid("u9;kAa;");
        for (int i = 0; i < 16; i++) {
            x.roll(0);
        }
        x.undo();
        due("another behind undo()", x.mirror(0), 1);
        due("sixteen again", x.told(8), 16);
        due("that is undone", x.undo(), 15);
        dueThread("that is undone", x, 0, "aA");
    }

    private static void images() {
        at("Terms 3: 'IMAGES 0, 1 keep all of section 2, THE SEED'");
        PretzelProof x = laid("u9;k" + TREFOIL + ";kAa;");
        x.seed(11);
        x.salt(0, 1, true);
        x.keep(0);
        x.join(1, 0);
        x.salt(1, 0, true);
        x.seed(22);
        x.keep(1);
        x.curl(0, 0, true);
        x.seed(33);
        due("back to 0", x.goBack(0), 1);
        dueThread("image 0", x, 0, TREFOIL);
        dueThread("image 0, the other one", x, 1, "Aa");
        due("image 0, salt", x.pretzel(0, 1), 2);
        due("image 0, grains", x.told(2), 8);
        due("image 0, seed", x.seed(44), 11);
        due("back to 1", x.goBack(1), 1);
        dueThread("image 1", x, 0, "");
        dueThread("image 1, the other one", x, 1, "AabCdBcD");
        due("image 1, salt", x.pretzel(1, 1), 5);
        due("image 1, grains", x.told(2), 7);
        due("image 1, seed", x.seed(55), 22);
    }
}
