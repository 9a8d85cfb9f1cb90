/** For each sentence of promises 1 to 31 that names a boundary case one test, under the promise that it holds. */
public final class BoundariesOfPromises extends Checks {
    private static final String EIGHT_CROSSINGS = "ABCDEFGHabcdefgh", SEVEN_CROSSINGS = "ABCDEFGabcdefg";

    public static void main(String[] args) {
        promise1NewObject();
        promise2Feed();
        promise3Tray();
        promise3Fault();
        promise4Fault();
        promise5Told();
        promise6Pretzel();
        promise7Pass();
        promise8Moves();
        promise9Shake();
        promise10Curl();
        promise11Turn();
        promise12Reverse();
        promise13Mirror();
        promise14Roll();
        promise15Join();
        promise16Salt();
        promise17Drift();
        promise18Undo();
        promise19ToShake();
        promise20Within();
        promise21Same();
        promise22Tells();
        promise23Words();
        promise24Colour();
        promise25Whole();
        promise26Write();
        promise27Tear();
        promise28Judge();
        promise29Seed();
        promise30Keep();
        promise31GoBack();
        end();
    }

    private static void promise1NewObject() {
        at("Promise 1: 'No TRAY'");
        PretzelProof x = new PretzelProof();
        for (int what = 0; what <= 8; what++) {
            due("told(" + what + ")", x.told(what), 0);
        }
        due("fault()", x.fault(), NONE);
        due("judge()", x.judge(), NONE);
        due("tear()", x.tear(), 0);
        due("drift(1)", x.drift(1), NOT);
        due("undo()", x.undo(), NOT);
        due("goBack(0)", x.goBack(0), NOT);
        due("goBack(1)", x.goBack(1), NOT);
        due("whole(1, 50)", x.whole(1, 50), 500000000);
        due("keep(0)", x.keep(0), 1);
        due("goBack(0) then", x.goBack(0), 1);
        due("drift(1) then", x.drift(1), NOT);
        due("seed(0)", x.seed(0), 0);
        PretzelProof other = laid("u9;kAa;");
        due("another object has its own tray", new PretzelProof().told(0), 0);
        due("and leaves the first its own", other.told(0), 1);
    }

    private static void promise2Feed() {
        at("Promise 2: 'One letter (a number 0 .. 255)': OUTSIDE");
        PretzelProof x = new PretzelProof();
        for (int letter : new int[] {-1, 256, 257, 511, -256, 65536, LOW, HIGH}) {
            due("feed(" + letter + ")", x.feed(letter), OUTSIDE);
        }
        due("letters then", x.told(1), 0);
        due("feed(0)", x.feed(0), 1);
        due("feed(255)", x.feed(255), 2);
        at("Promise 2: 'how many it has', 'FULL (240)'");
        for (int i = 3; i <= 240; i++) {
            due("feed(32)", x.feed(32), i);
        }
        due("the 241st", x.feed(32), FULL);
        due("the 242nd", x.feed(32), FULL);
        due("letters then", x.told(1), 240);
        due("tray()", x.tray(), -11);
        due("feed behind tray()", x.feed('u'), 1);
    }

    private static PretzelProof used() {
        PretzelProof x = laid("u9;kAa;kABab;");
        x.seed(77);
        x.keep(0);
        x.keep(1);
        x.write(0, 1);
        x.write(1, 1);
        x.salt(0, 0, true);
        x.roll(1);
        return x;
    }

    private static void promise3Tray() {
        at("Promise 3: THE TEXT 'is empty then'");
        PretzelProof x = used();
        due("tray()", trayOf(x, "u3;kBbAa;"), 1);
        due("letters", x.told(1), 0);
        at("Promise 3: 'SALT, THREADS as told, nothing SALTED'");
        due("pretzels", x.told(0), 1);
        due("grains", x.told(2), 3);
        due("crossings", x.told(3), 2);
        due("salted", x.told(4), 0);
        due("salted of 0", x.pretzel(0, 1), 0);
        dueThread("pretzel 0", x, 0, "AaBb");
        due("pretzel 1 is no more", x.pass(1, 0), UNKNOWN);
        at("Promise 3: 'no BOOK'");
        due("entries", x.told(7), 0);
        due("judge()", x.judge(), NONE);
        at("Promise 3: 'IMAGES, what could be undone are gone'");
        due("to be undone", x.told(8), 0);
        due("undo()", x.undo(), NOT);
        due("goBack(0)", x.goBack(0), NOT);
        due("goBack(1)", x.goBack(1), NOT);
        at("Promise 3: 'THE SEED stays'");
        due("seed", x.seed(0), 77);
        at("Promise 3: 'how many PRETZELS'");
        due("none", trayOf(x, "u0;"), 0);
        due("five", trayOf(x, "u0;k;k;kAa;k;k;"), 5);
        due("an empty text", x.tray(), 0);
        due("pretzels of no tray", x.told(0), 0);
    }

    private static void promise3Fault() {
        String[] texts = {"x", "u100;", "u9;u", "u9;kAA", "u9;kA;"};
        for (int i = 0; i < texts.length; i++) {
            at("Promise 3: '-10 less the number of its FAULT'");
            PretzelProof x = used();
            due("tray() of " + texts[i], trayOf(x, texts[i]), -11 - i);
            at("Promise 3: THE TEXT 'is empty then, with a FAULT, too'");
            due("letters behind " + texts[i], x.told(1), 0);
            at("Promise 3: with a FAULT 'all else is as it was'");
            due("all behind " + texts[i], withoutFault(everything(x)), withoutFault(everything(used())));
        }
        at("Promise 3: with a FAULT there is no TRAY where none was");
        PretzelProof fresh = new PretzelProof();
        due("tray() of a new object", trayOf(fresh, "u5;k"), -11);
        due("drift(1)", fresh.drift(1), NOT);
    }

    private static String withoutFault(String seen) {
        return seen.replaceFirst("fault -?\\d+", "");
    }

    private static void promise4Fault() {
        at("Promise 4: 'The letter of the FAULT of the latest tray(); NONE'");
        PretzelProof x = new PretzelProof();
        due("ahead of any tray()", x.fault(), NONE);
        feedAll(x, "u5;kA;");
        due("ahead of tray()", x.fault(), NONE);
        x.tray();
        due("behind tray()", x.fault(), 5);
        feedAll(x, "u5;kAa;");
        due("with the next text", x.fault(), 5);
        x.tray();
        due("behind a good one", x.fault(), NONE);
        trayOf(x, "x");
        due("at the first letter", x.fault(), 0);
        x.roll(0);
        x.keep(0);
        x.goBack(0);
        due("other calls leave it", x.fault(), 0);
        x.tray();
        due("behind an empty one", x.fault(), NONE);
        dueFault("u5" + " ".repeat(238), -11, 240);
        dueFault("u5" + " ".repeat(237) + "x", -11, 239);
    }

    private static void promise5Told() {
        at("Promise 5: told(what): OUTSIDE");
        dueOutside("told", (x, what) -> x.told(what), -1, 9, 10, LOW, HIGH);
        due("told(9) without a tray", new PretzelProof().told(9), OUTSIDE);
        at("Promise 5: '5 PRETZELS that are plain (a SET of PRETZELS), 6 PRETZELS of which SHAKE can leave none'");
        PretzelProof x = laid("u9;k" + TREFOIL + ";k;kABab;kAa;k" + EIGHT_CROSSINGS + ";");
        due("plain ones", x.told(5), 2);
        due("that can be left none", x.told(6), 30);
        x.salt(2, 1, true);
        x.salt(4, 7, true);
        due("with salt", x.told(6), 10);
        x.shake(3, 0, 0);
        due("plain ones then", x.told(5), 10);
        PretzelProof first = laid("u9;kAaBb;k" + TREFOIL + ";");
        due("the first alone can be left none", first.told(6), 1);
        first.salt(0, 0, true);
        due("not with salt on one of its curls", first.told(6), 0);
        due("a tray without pretzels, plain ones", laid("u9;").told(5), 0);
        due("a tray without pretzels, others", laid("u9;").told(6), 0);
        at("Promise 5: '3 CROSSINGS of all, 4 SALTED ones of all'");
        due("crossings", x.told(3), 13);
        due("salted", x.told(4), 2);
        PretzelProof most = laid("u99;k" + EIGHT_CROSSINGS + ";k" + EIGHT_CROSSINGS + ";k" + EIGHT_CROSSINGS
            + ";k" + EIGHT_CROSSINGS + ";k" + EIGHT_CROSSINGS + ";");
        for (int i = 0; i < 40; i++) {
            most.salt(i / 8, i % 8, true);
        }
        due("most crossings", most.told(3), 40);
        due("most salted", most.told(4), 40);
        due("grains then", most.told(2), 59);
        due("most that can be undone", most.told(8), 16);
        due("none can be left none", most.told(6), 0);
    }

    private static void promise6Pretzel() {
        at("Promise 6: pretzel(k, what): UNKNOWN");
        for (int what = 0; what < 7; what++) {
            int of = what;
            dueUnknownPretzel("pretzel(k, " + what + ")", (x, k) -> x.pretzel(k, of));
        }
        at("Promise 6: pretzel(k, what): OUTSIDE");
        dueOutside("pretzel", (x, what) -> x.pretzel(1, what), -1, 7, 8, LOW, HIGH);
        at("Promise 6: of a plain one, and of eight crossings");
        int[][] want = {{0, 0, 3, 5, 0, 0, 0}, {8, 0, 3, 5, 255, 0, 255}};
        PretzelProof x = laid("u9;k;k" + EIGHT_CROSSINGS + ";");
        for (int what = 0; what < 7; what++) {
            due("pretzel(0, " + what + ")", x.pretzel(0, what), want[0][what]);
            due("pretzel(1, " + what + ")", x.pretzel(1, what), want[1][what]);
        }
    }

    private static void promise7Pass() {
        at("Promise 7: pass(k, i): UNKNOWN");
        dueUnknownPretzel("pass(k, 0)", (x, k) -> x.pass(k, 0));
        at("Promise 7: 'The i-th PASS of a THREAD (0 the first); NONE'");
        PretzelProof x = laid("u9;kBbaA;k;k" + EIGHT_CROSSINGS + ";");
        int[] want = {1, 0, 2, 3, NONE};
        for (int i = 0; i < 5; i++) {
            due("pass(0, " + i + ")", x.pass(0, i), want[i]);
        }
        for (int i : new int[] {-1, -2, 16, 17, LOW, HIGH}) {
            due("pass(0, " + i + ")", x.pass(0, i), NONE);
            due("pass(1, " + i + ")", x.pass(1, i), NONE);
            due("pass(2, " + i + ")", x.pass(2, i), NONE);
        }
        due("of a plain one", x.pass(1, 0), NONE);
        due("the first of sixteen", x.pass(2, 0), 1);
        due("the last of sixteen", x.pass(2, 15), 14);
        at("Promise 7: pass(k, i) of what was longer");
        x.shake(0, 1, 1);
        due("behind what is left", x.pass(0, 2), NONE);
    }

    private static void promise8Moves() {
        at("Promise 8: moves(k, i): UNKNOWN");
        dueUnknownPretzel("moves(k, NONE)", (x, k) -> x.moves(k, NONE));
        dueUnknownPretzel("moves(k, 0)", (x, k) -> x.moves(k, 0));
        at("Promise 8: 'i = NONE how many, else the i-th; NONE'");
        PretzelProof x = laid("u9;kABba;k" + TREFOIL + ";k;");
        int[] want = {0, 1, 11, NONE, NONE};
        due("how many", x.moves(0, NONE), 3);
        for (int i = 0; i < 5; i++) {
            due("moves(0, " + i + ")", x.moves(0, i), want[i]);
        }
        for (int i : new int[] {-2, -3, 36, 37, LOW, HIGH}) {
            due("moves(0, " + i + ")", x.moves(0, i), NONE);
        }
        due("how many of none", x.moves(1, NONE), 0);
        due("the first of none", x.moves(1, 0), NONE);
        due("how many of a plain one", x.moves(2, NONE), 0);
    }

    private static void promise9Shake() {
        at("Promise 9: shake(k, c, d): UNKNOWN");
        dueUnknownPretzel("shake(k, 0, 0)", (x, k) -> x.shake(k, 0, 0));
        dueUnknownCrossing("shake(0, c, 0)", (x, c) -> x.shake(0, c, 0));
        dueUnknownCrossing("shake(0, 1, d)", (x, d) -> x.shake(0, 1, d));
        dueUnknownCrossing("shake(0, c, c)", (x, c) -> x.shake(0, c, c));
        at("Promise 9: 'NOT: there is no such MOVE'");
        PretzelProof x = laid("u9;kABCcba;");
        due("no curl of 1", x.shake(0, 1, 1), NOT);
        due("no poke of 0 and 2", x.shake(0, 0, 2), NOT);
        due("no poke of 2 and 0", x.shake(0, 2, 0), NOT);
        x.salt(0, 0, true);
        due("a salted curl", x.shake(0, 0, 0), NOT);
        due("a poke with salt", x.shake(0, 0, 1), NOT);
        at("Promise 9: 'a CURL of c (d like c), or a POKE of c and d: CROSSINGS that are left'");
        due("a poke, the greater first", x.shake(0, 2, 1), 1);
        x.salt(0, 0, false);
        due("the last one", x.shake(0, 0, 0), 0);
        due("of a plain one", x.shake(0, 0, 0), UNKNOWN);
        PretzelProof y = laid("u9;kABab;kaBbA;k" + EIGHT_CROSSINGS + ";");
        due("a poke of all", y.shake(0, 0, 1), 0);
        due("a curl round the end", y.shake(1, 0, 0), 1);
        due("a poke of the last two of eight", y.shake(2, 6, 7), 6);
        dueThread("what is left of eight", y, 2, "ABCDEFabcdef");
    }

    private static void promise10Curl() {
        at("Promise 10: curl(k, i, overFirst): UNKNOWN");
        dueUnknownPretzel("curl(k, 0, true)", (x, k) -> x.curl(k, 0, true));
        at("Promise 10: 'ahead of PASS i (0 to how many there are: behind the last)': OUTSIDE");
        dueOutside("curl", (x, i) -> x.curl(0, i, true), -1, 5, 6, 16, 17, LOW, HIGH);
        PretzelProof x = laid("u9;kABab;k;k" + SEVEN_CROSSINGS + ";k" + EIGHT_CROSSINGS + ";");
        due("ahead of the first", x.curl(0, 0, true), 3);
        dueThread("ahead of the first", x, 0, "AaBCbc");
        due("behind the last", x.curl(0, 6, false), 4);
        dueThread("behind the last", x, 0, "AaBCbcdD");
        due("a plain one, OUTSIDE", x.curl(1, 1, true), OUTSIDE);
        due("a plain one", x.curl(1, 0, false), 1);
        dueThread("a plain one", x, 1, "aA");
        at("Promise 10: 'FULL: eight CROSSINGS'");
        due("the eighth, behind the last", x.curl(2, 14, true), 8);
        dueThread("the eighth", x, 2, SEVEN_CROSSINGS + "Hh");
        due("the ninth, behind the last", x.curl(2, 16, true), FULL);
        due("the ninth, ahead of the first", x.curl(3, 0, true), FULL);
        due("OUTSIDE of eight", x.curl(3, 17, true), OUTSIDE);
    }

    private static void promise11Turn() {
        at("Promise 11: turn(k, c): UNKNOWN");
        dueUnknownPretzel("turn(k, 0)", (x, k) -> x.turn(k, 0));
        dueUnknownCrossing("turn(0, c)", (x, c) -> x.turn(0, c));
        at("Promise 11: 'COLOURS by 3 then'");
        PretzelProof x = laid("u9;k" + TREFOIL + ";k" + EIGHT_CROSSINGS + ";kAa;");
        due("turn(0, 2)", x.turn(0, 2), 3);
        due("turn(0, 2) again", x.turn(0, 2), 9);
        dueThread("turned twice", x, 0, TREFOIL);
        due("the last of eight", x.turn(1, 7), 3);
        dueThread("the last of eight", x, 1, "ABCDEFGhabcdefgH");
        x.salt(2, 0, true);
        due("a salted one", x.turn(2, 0), 3);
        dueThread("a salted one", x, 2, "aA");
        due("its salt", x.pretzel(2, 1), 1);
    }

    private static void promise12Reverse() {
        at("Promise 12: reverse(k): UNKNOWN");
        dueUnknownPretzel("reverse(k)", (x, k) -> x.reverse(k));
        at("Promise 12: 'REVERSED: CROSSINGS'");
        PretzelProof x = laid("u9;k;kAa;kABCDEFGHhabcdefg;");
        due("a plain one", x.reverse(0), 0);
        due("one crossing", x.reverse(1), 1);
        dueThread("one crossing", x, 1, "aA");
        due("eight", x.reverse(2), 8);
        dueThread("eight", x, 2, "abcdefghHABCDEFG");
    }

    private static void promise13Mirror() {
        at("Promise 13: mirror(k): UNKNOWN");
        dueUnknownPretzel("mirror(k)", (x, k) -> x.mirror(k));
        at("Promise 13: 'MIRRORED: CROSSINGS'");
        PretzelProof x = laid("u9;k;kAa;k" + EIGHT_CROSSINGS + ";");
        due("a plain one", x.mirror(0), 0);
        due("one crossing", x.mirror(1), 1);
        dueThread("one crossing", x, 1, "aA");
        due("eight", x.mirror(2), 8);
        dueThread("eight", x, 2, "abcdefghABCDEFGH");
    }

    private static void promise14Roll() {
        at("Promise 14: roll(k): UNKNOWN");
        dueUnknownPretzel("roll(k)", (x, k) -> x.roll(k));
        at("Promise 14: 'the first PASS then (NONE: it is plain)'");
        PretzelProof x = laid("u9;k;kAa;k" + EIGHT_CROSSINGS + ";kAaBb;");
        due("a plain one", x.roll(0), NONE);
        due("under first", x.roll(1), 0);
        due("over first", x.roll(1), 1);
        for (int i = 1; i <= 16; i++) {
            due("eight, rolled " + i, x.roll(2), i < 8 || i == 16 ? 1 : 0);
        }
        dueThread("eight, all the way round", x, 2, EIGHT_CROSSINGS);
        x.shake(3, 1, 1);
        due("what was longer", x.roll(3), 0);
        dueThread("what was longer", x, 3, "aA");
        x.shake(3, 0, 0);
        due("what is plain now", x.roll(3), NONE);
    }

    private static void promise15Join() {
        at("Promise 15: join(k, q): UNKNOWN");
        dueUnknownPretzel("join(k, 0)", (x, k) -> x.join(k, 0));
        dueUnknownPretzel("join(0, q)", (x, q) -> x.join(0, q));
        due("one twice", laid("u9;kAa;").join(0, 0), UNKNOWN);
        at("Promise 15: 'FULL: above eight'");
        PretzelProof x = laid("u9;k" + SEVEN_CROSSINGS + ";kABab;kAa;k" + EIGHT_CROSSINGS + ";k;");
        due("nine", x.join(0, 1), FULL);
        due("nine", x.join(1, 0), FULL);
        due("nine", x.join(3, 2), FULL);
        due("nine", x.join(2, 3), FULL);
        due("fifteen", x.join(0, 3), FULL);
        due("eight", x.join(0, 2), 8);
        dueThread("eight", x, 0, SEVEN_CROSSINGS + "Hh");
        due("sixteen", x.join(0, 3), FULL);
        due("eight and a plain one", x.join(3, 4), 8);
        due("a plain one and eight", x.join(4, 3), 8);
        dueThread("a plain one and eight", x, 4, EIGHT_CROSSINGS);
        due("two plain ones", x.join(2, 3), 0);
    }

    private static void promise16Salt() {
        at("Promise 16: salt(k, c, is): UNKNOWN");
        dueUnknownPretzel("salt(k, 0, true)", (x, k) -> x.salt(k, 0, true));
        dueUnknownPretzel("salt(k, 0, false)", (x, k) -> x.salt(k, 0, false));
        dueUnknownCrossing("salt(0, c, true)", (x, c) -> x.salt(0, c, true));
        dueUnknownCrossing("salt(0, c, false)", (x, c) -> x.salt(0, c, false));
        at("Promise 16: 'NOT: it is so already, the bin is empty'");
        PretzelProof none = laid("u0;kAa;");
        due("no grain at first", none.salt(0, 0, true), NOT);
        due("none to be taken off", none.salt(0, 0, false), NOT);
        PretzelProof x = laid("u2;k" + EIGHT_CROSSINGS + ";");
        due("not salted", x.salt(0, 7, false), NOT);
        due("salted", x.salt(0, 7, true), 1);
        due("salted already", x.salt(0, 7, true), NOT);
        due("the last grain", x.salt(0, 0, true), 0);
        due("the bin is empty", x.salt(0, 1, true), NOT);
        due("salted already, and the bin is empty", x.salt(0, 0, true), NOT);
        due("taken off, the bin was empty", x.salt(0, 7, false), 1);
        due("salted are", x.pretzel(0, 1), 1);
    }

    private static void promise17Drift() {
        at("Promise 17: 'n times (1 .. 30)': OUTSIDE");
        dueOutside("drift", (x, n) -> x.drift(n), 0, -1, 31, 32, LOW, HIGH);
        at("Promise 17: 'CROSSINGS of all'");
        for (int n : new int[] {1, 2, 29, 30}) {
            PretzelProof x = laid("u9;k" + TREFOIL + ";kABba;");
            x.seed(5);
            due("drift(" + n + ")", x.drift(n), x.told(3));
            due("drift(" + n + ") is one to be undone", x.undo(), 0);
            dueThread("drift(" + n + ") undone", x, 0, TREFOIL);
        }
        at("Promise 17: 'NOT: no TRAY'");
        PretzelProof none = new PretzelProof();
        due("of a new object", none.drift(1), NOT);
        none.tray();
        due("behind an empty text", none.drift(30), NOT);
        due("a tray without pretzels is one", laid("u0;").drift(1), 0);
        at("Promise 17: never above eight crossings");
        PretzelProof x = laid("u0;k" + EIGHT_CROSSINGS + ";");
        for (int i = 0; i < 60; i++) {
            int crossings = x.drift(30);
            due("crossings", crossings >= 0 && crossings <= 8 ? 1 : 0, 1);
        }
    }

    private static void promise18Undo() {
        at("Promise 18: 'how many more can be. NOT: none'");
        PretzelProof x = laid("u9;kAa;");
        due("none", x.undo(), NOT);
        x.roll(0);
        due("one", x.undo(), 0);
        due("none again", x.undo(), NOT);
        for (int i = 0; i < 17; i++) {
            x.roll(0);
        }
        for (int i = 15; i >= 0; i--) {
            due("of seventeen", x.undo(), i);
        }
        due("no more", x.undo(), NOT);
        dueThread("the first of seventeen is lost", x, 0, "aA");
        at("Promise 18: what was written stays");
        x.write(0, 1);
        x.roll(0);
        x.tear();
        x.undo();
        due("entries", x.told(7), 0);
    }

    private static void promise19ToShake() {
        at("Promise 19: toShake(k, what): UNKNOWN");
        for (int what = 0; what < 4; what++) {
            int of = what;
            dueUnknownPretzel("toShake(k, " + what + ")", (x, k) -> x.toShake(k, of));
        }
        at("Promise 19: toShake(k, what): OUTSIDE");
        dueOutside("toShake", (x, what) -> x.toShake(0, what), -1, 4, 5, LOW, HIGH);
        due("OUTSIDE of a plain one", laid("u9;k;").toShake(0, 4), OUTSIDE);
        at("Promise 19: 'the first MOVE; NONE'");
        due("of a plain one", laid("u9;k;").toShake(0, 3), NONE);
        due("of a trefoil", laid("u9;k" + TREFOIL + ";").toShake(0, 3), NONE);
        due("the least of like ones, of eight", laid("u9;kABCDEFGabcdefgHh;").toShake(0, 3), 1);
    }

    private static void promise20Within() {
        at("Promise 20: within(k, c): UNKNOWN");
        dueUnknownPretzel("within(k, 0)", (x, k) -> x.within(k, 0));
        dueUnknownCrossing("within(0, c)", (x, c) -> x.within(0, c));
        at("Promise 20: 'WITHIN', of the first and the last crossing");
        PretzelProof x = laid("u9;k" + EIGHT_CROSSINGS + ";kAa;");
        due("within(0, 0)", x.within(0, 0), 254);
        due("within(0, 7)", x.within(0, 7), 127);
        due("none", x.within(1, 0), 0);
    }

    private static void promise21Same() {
        at("Promise 21: same(k, q): UNKNOWN");
        dueUnknownPretzel("same(k, 0)", (x, k) -> x.same(k, 0));
        dueUnknownPretzel("same(0, q)", (x, q) -> x.same(0, q));
        due("one twice", laid("u9;kAa;").same(0, 0), UNKNOWN);
        at("Promise 21: 'SAME', of eight crossings round the end");
        PretzelProof x = laid("u9;kAaBcbCDEFGHdefgh;khAaBcbCDEFGHdefg;khHgGfFeEdDcCbBaA;k;k;");
        due("rolled by one", x.same(0, 1), 1);
        due("rolled by one", x.same(1, 0), 1);
        due("none", x.same(0, 2), 0);
        due("a plain one", x.same(3, 0), 0);
        due("two plain ones", x.same(3, 4), 15);
    }

    private static void promise22Tells() {
        at("Promise 22: tells(k, q): UNKNOWN");
        dueUnknownPretzel("tells(k, 0)", (x, k) -> x.tells(k, 0));
        dueUnknownPretzel("tells(0, q)", (x, q) -> x.tells(0, q));
        due("one twice", laid("u9;k" + TREFOIL + ";").tells(0, 0), UNKNOWN);
        at("Promise 22: 'TELLS', of a plain one");
        PretzelProof x = laid("u9;k;k;kAa;k" + TREFOIL + ";");
        due("two plain ones", x.tells(0, 1), 0);
        due("a plain one and a curl", x.tells(1, 2), 0);
        due("a plain one and a trefoil", x.tells(0, 3), 5);
    }

    private static void promise23Words() {
        at("Promise 23: words(k, i): UNKNOWN");
        dueUnknownPretzel("words(k, 0)", (x, k) -> x.words(k, 0));
        at("Promise 23: 'WORDS; NONE'");
        PretzelProof x = laid("u9;kABba;k;k" + EIGHT_CROSSINGS + ";");
        int[] want = {0, 1, 3, 2, NONE, NONE};
        for (int i = 0; i < want.length; i++) {
            due("words(0, " + i + ")", x.words(0, i), want[i]);
        }
        for (int i : new int[] {-1, -2, 16, 17, LOW, HIGH}) {
            due("words(0, " + i + ")", x.words(0, i), NONE);
            due("words(1, " + i + ")", x.words(1, i), NONE);
            due("words(2, " + i + ")", x.words(2, i), NONE);
        }
        due("of a plain one", x.words(1, 0), NONE);
        due("the first of sixteen", x.words(2, 0), 0);
        due("the last of sixteen", x.words(2, 15), 15);
    }

    private static void promise24Colour() {
        at("Promise 24: colour(k, part): UNKNOWN");
        dueUnknownPretzel("colour(k, 0)", (x, k) -> x.colour(k, 0));
        at("Promise 24: 'NONE (no such PART, too)'");
        PretzelProof x = laid("u9;k" + TREFOIL + ";k;kdDeEfFgG" + TREFOIL + "hH;");
        int[] want = {0, 1, 2, NONE, NONE};
        for (int part = 0; part < want.length; part++) {
            due("colour(0, " + part + ")", x.colour(0, part), want[part]);
        }
        int[] ofEight = {0, 0, 0, 0, 1, 2, 0, 0, NONE};
        for (int part = 0; part < ofEight.length; part++) {
            due("colour(2, " + part + ")", x.colour(2, part), ofEight[part]);
        }
        for (int part : new int[] {-1, -2, 8, 9, LOW, HIGH}) {
            due("colour(0, " + part + ")", x.colour(0, part), NONE);
            due("colour(1, " + part + ")", x.colour(1, part), NONE);
            due("colour(2, " + part + ")", x.colour(2, part), NONE);
        }
        due("a plain one is of one colour", x.colour(1, 0), NONE);
    }

    private static void promise25Whole() {
        at("Promise 25: whole(n, q): OUTSIDE");
        dueOutside("whole(n, 50)", (x, n) -> x.whole(n, 50), -1, 61, LOW, HIGH);
        dueOutside("whole(5, q)", (x, q) -> x.whole(5, q), -1, 101, LOW, HIGH);
        dueOutside("whole(0, q)", (x, q) -> x.whole(0, q), -1, 101, LOW, HIGH);
        at("Promise 25: 'WHOLE' at its bounds");
        PretzelProof x = new PretzelProof();
        due("whole(0, 0)", x.whole(0, 0), 1000000000);
        due("whole(60, 100)", x.whole(60, 100), 1000000000);
        due("whole(60, 0)", x.whole(60, 0), 0);
        due("whole(0, 100)", x.whole(0, 100), 1000000000);
    }

    private static void promise26Write() {
        at("Promise 26: write(k, crossings): UNKNOWN");
        dueUnknownPretzel("write(k, 0)", (x, k) -> x.write(k, 0));
        at("Promise 26: 'An entry (0 .. 8)': OUTSIDE");
        dueOutside("write", (x, crossings) -> x.write(0, crossings), -1, 9, 10, LOW, HIGH);
        PretzelProof x = laid("u9;k;k" + EIGHT_CROSSINGS + ";");
        due("write(0, 0)", x.write(0, 0), 1);
        due("write(1, 8)", x.write(1, 8), 2);
        due("both are so", x.judge(), NONE);
        at("Promise 26: 'how many', 'FULL (15)'");
        for (int i = 3; i <= 15; i++) {
            due("write", x.write(0, 0), i);
        }
        due("the sixteenth", x.write(0, 0), FULL);
        due("entries", x.told(7), 15);
        due("all are so", x.judge(), NONE);
    }

    private static void promise27Tear() {
        at("Promise 27: 'THE BOOK is empty: how many entries it had'");
        PretzelProof x = laid("u9;kAa;");
        due("none", x.tear(), 0);
        x.write(0, 8);
        due("one", x.tear(), 1);
        due("none again", x.tear(), 0);
        due("entries", x.told(7), 0);
        due("nothing is wrong", x.judge(), NONE);
        for (int i = 0; i < 16; i++) {
            x.write(0, 8);
        }
        due("fifteen", x.tear(), 15);
        due("an entry then", x.write(0, 1), 1);
        due("what was torn is forgotten", x.judge(), NONE);
    }

    private static void promise28Judge() {
        at("Promise 28: 'WRONG; NONE'");
        PretzelProof x = laid("u9;kAa;k;");
        due("no entries", x.judge(), NONE);
        x.write(0, 1);
        x.write(1, 0);
        due("none is wrong", x.judge(), NONE);
        x.join(1, 0);
        due("both are: the first", x.judge(), 0);
        x.curl(0, 0, true);
        due("the second", x.judge(), 1);
        x.undo();
        x.undo();
        due("undone", x.judge(), NONE);
        due("judge() leaves the book", x.told(7), 2);
    }

    private static void promise29Seed() {
        at("Promise 29: 'THE SEED becomes v (0 .. 2147483647): what it was. OUTSIDE'");
        PretzelProof x = new PretzelProof();
        due("seed(2147483647)", x.seed(HIGH), 0);
        due("seed(-1)", x.seed(-1), OUTSIDE);
        due("the least number", x.seed(LOW), OUTSIDE);
        due("seed(0)", x.seed(0), HIGH);
        due("seed(1)", x.seed(1), 0);
        due("seed(0)", x.seed(0), 1);
    }

    private static void promise30Keep() {
        at("Promise 30: keep(i): UNKNOWN");
        for (int i : new int[] {-1, 2, 3, 32, LOW, HIGH}) {
            due("keep(" + i + ")", laid("u9;kAa;").keep(i), UNKNOWN);
        }
        at("Promise 30: 'nothing can be undone then'");
        PretzelProof x = laid("u9;kAa;");
        x.roll(0);
        due("refused", x.keep(2), UNKNOWN);
        due("can be undone yet", x.told(8), 1);
        due("keep(0)", x.keep(0), 1);
        due("to be undone", x.told(8), 0);
        due("undo()", x.undo(), NOT);
        dueThread("nothing was undone", x, 0, "aA");
        x.roll(0);
        due("keep(1)", x.keep(1), 1);
        due("undo() behind keep(1)", x.undo(), NOT);
        at("Promise 30: 'IMAGE i becomes what is so', again");
        x.curl(0, 0, true);
        due("keep(0) again", x.keep(0), 1);
        x.mirror(0);
        x.goBack(1);
        dueThread("image 1", x, 0, "Aa");
        x.goBack(0);
        dueThread("image 0", x, 0, "AaBb");
        at("Promise 30: keep(i) without a tray");
        due("keep(0)", new PretzelProof().keep(0), 1);
    }

    private static void promise31GoBack() {
        at("Promise 31: goBack(i): UNKNOWN");
        for (int i : new int[] {-1, 2, 3, 32, LOW, HIGH}) {
            PretzelProof x = laid("u9;kAa;");
            x.keep(0);
            x.keep(1);
            due("goBack(" + i + ")", x.goBack(i), UNKNOWN);
        }
        at("Promise 31: 'NOT: it was not kept'");
        for (int kept = 0; kept < 2; kept++) {
            PretzelProof x = laid("u9;kAa;");
            due("goBack(0), none kept", x.goBack(0), NOT);
            due("goBack(1), none kept", x.goBack(1), NOT);
            x.keep(kept);
            x.roll(0);
            due("the other one", x.goBack(1 - kept), NOT);
            due("can be undone yet", x.told(8), 1);
            at("Promise 31: 'nothing can be undone then'");
            due("goBack", x.goBack(kept), 1);
            due("to be undone", x.told(8), 0);
            due("undo()", x.undo(), NOT);
            at("Promise 31: 'What is so becomes IMAGE i', again");
            dueThread("back", x, 0, "Aa");
            x.roll(0);
            x.seed(9);
            due("goBack again", x.goBack(kept), 1);
            dueThread("back again", x, 0, "Aa");
            due("the seed of the image", x.seed(0), 0);
            at("Promise 31: 'NOT: it was not kept', behind a tray");
            trayOf(x, "?");
            due("behind a fault it is kept", x.goBack(kept), 1);
            trayOf(x, "u9;kAa;");
            due("behind a tray it is not", x.goBack(kept), NOT);
        }
        at("Promise 31: THE BOOK, THE TEXT are no part of an IMAGE");
        PretzelProof x = laid("u9;kAa;");
        x.keep(0);
        x.write(0, 2);
        x.feed('u');
        x.goBack(0);
        due("entries", x.told(7), 1);
        due("letters", x.told(1), 1);
    }
}
