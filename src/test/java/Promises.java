/** For each promise of the document ordinary calls, the edges that it names, and wrong calls. */
public final class Promises extends Checks {
    public static void main(String[] args) {
        constants();
        promise1NewObject();
        promise2Feed();
        promise3Tray();
        promise3Numbers();
        promise3Threads();
        promise4Fault();
        promise5Told();
        promise6Pretzel();
        promise6Switches();
        promise7Pass();
        promise8Moves();
        promise9Shake();
        promise10Curl();
        promise11Turn();
        promise12Reverse();
        promise13Mirror();
        promise14Roll();
        promise15Join();
        promise16Salt();
        promise17Drift();
        promise18Undo();
        promise19ToShake();
        promise20Within();
        promise21Same();
        promise22Tells();
        promise23Words();
        promise24Colour();
        promise25Whole();
        promise26To28Book();
        promise29Seed();
        promise30And31Images();
        refusalsChangeNothing();
        end();
    }

    private static void constants() {
        at("The public face");
        due("NONE", PretzelProof.NONE, NONE);
        due("UNKNOWN", PretzelProof.UNKNOWN, UNKNOWN);
        due("OUTSIDE", PretzelProof.OUTSIDE, OUTSIDE);
        due("NOT", PretzelProof.NOT, NOT);
        due("FULL", PretzelProof.FULL, FULL);
    }

    private static void promise1NewObject() {
        at("Promise 1: a new object");
        PretzelProof x = new PretzelProof();
        for (int what = 0; what <= 8; what++) {
            due("new: told(" + what + ")", x.told(what), 0);
        }
        due("new: fault", x.fault(), NONE);
        due("new: drift", x.drift(1), NOT);
        due("new: undo", x.undo(), NOT);
        due("new: goBack", x.goBack(0), NOT);
        due("new: pretzel", x.pretzel(0, 0), UNKNOWN);
        due("new: write", x.write(0, 0), UNKNOWN);
        due("new: judge", x.judge(), NONE);
        due("new: tear", x.tear(), 0);
        due("new: seed", x.seed(0), 0);
        due("new: keep", x.keep(1), 1);
        due("new: goBack to what was kept", x.goBack(1), 1);
    }

    private static void promise2Feed() {
        at("Promise 2: feed");
        PretzelProof x = new PretzelProof();
        due("feed(-1)", x.feed(-1), OUTSIDE);
        due("feed(256)", x.feed(256), OUTSIDE);
        due("feed(0)", x.feed(0), 1);
        due("feed(255)", x.feed(255), 2);
        for (int i = 3; i <= 240; i++) {
            due("feed(32)", x.feed(32), i);
        }
        due("feed(32) to 240", x.feed(32), FULL);
        due("feed(256) to 240", x.feed(256), OUTSIDE);
        due("told(1) of 240", x.told(1), 240);
        due("tray() of 240", x.tray(), -11);
        due("fault() of 240", x.fault(), 0);
        due("feed behind tray()", x.feed('u'), 1);
    }

    private static void promise3Tray() {
        at("Promise 3: tray");
        dueFault("u3;k" + TREFOIL + ";k;", 2, NONE);
        dueFault("u3;", 0, NONE);
        dueFault("", 0, NONE);
        dueFault("   ", 0, NONE);
        dueFault(" u 9 9 ; k A a ; k ; ", -11, 5);
        dueFault(" u 99 ; k A a ; k ; ", 2, NONE);
        dueFault("u0;k;k;k;k;k;", 5, NONE);
        PretzelProof x = laid("u9;kAa;");
        x.seed(77);
        x.write(0, 1);
        x.keep(0);
        x.roll(0);
        due("tray() of a fault", faulty(x), -11);
        due("the book behind a fault", x.told(7), 1);
        due("undoable behind a fault", x.told(8), 1);
        due("the image behind a fault", x.goBack(0), 1);
        x.salt(0, 0, true);
        feedAll(x, "u1;kBAba;");
        due("a second tray", x.tray(), 1);
        dueThread("a second tray", x, 0, "ABab");
        due("grains then", x.told(2), 1);
        due("salted then", x.told(4), 0);
        due("the book then", x.told(7), 0);
        due("undoable then", x.told(8), 0);
        due("the image then", x.goBack(0), NOT);
        due("the seed then", x.seed(0), 77);
        due("tray() of no text", x.tray(), 0);
        due("pretzels of no tray", x.told(0), 0);
        due("grains of no tray", x.told(2), 0);
        due("drift of no tray", x.drift(1), NOT);
    }

    private static int faulty(PretzelProof x) {
        x.feed('?');
        return x.tray();
    }

    private static void promise3Numbers() {
        at("Promise 3: tray");
        dueFault("u", -11, 1);
        dueFault("u;", -11, 1);
        dueFault("u ", -11, 2);
        dueFault("u1", -11, 2);
        dueFault("u1k", -11, 2);
        dueFault("u1 2;", -11, 3);
        dueFault("u099;", 0, NONE);
        dueFault("u99;", 0, NONE);
        dueFault("u100;", -12, 1);
        dueFault("u  100", -12, 3);
        dueFault("u0000;", -12, 1);
        dueFault("u0001x", -12, 1);
        dueFault("u999999999999;", -12, 1);
        dueFault("u-1;", -11, 1);
        due("u099 is 99", laid("u099;").told(2), 99);
        due("u000 is 0", laid("u000;").told(2), 0);
    }

    private static void promise3Threads() {
        at("Promise 3: tray");
        dueFault("kAa;", -11, 0);
        dueFault(" kAa;", -11, 1);
        dueFault("x", -11, 0);
        dueFault("U1;", -11, 0);
        dueFault("u1;x", -11, 3);
        dueFault("u1;K", -11, 3);
        dueFault("u1;;", -11, 3);
        dueFault("u1;u", -13, 3);
        dueFault("u1;kAa; u2;", -13, 8);
        dueFault("u1;k;k;k;k;k;k", -13, 13);
        dueFault("u1;k;k;k;k;k;u", -13, 13);
        dueFault("u1;k;k;k;k;k;x", -11, 13);
        dueFault("u1;kAA", -14, 5);
        dueFault("u1;kaa", -14, 5);
        dueFault("u1;kAaA", -14, 6);
        dueFault("u1;kA;", -15, 5);
        dueFault("u1;kAaB ;", -15, 8);
        dueFault("u1;kAa", -11, 6);
        dueFault("u1;kA", -11, 5);
        dueFault("u1;k1", -11, 4);
        dueFault("u1;kA@", -11, 5);
        dueFault("u1;kA[", -11, 5);
        dueFault("u1;kA`", -11, 5);
        dueFault("u1;kA{", -11, 5);
        dueFault("u1;kABCDEFGHI", -13, 12);
        dueFault("u1;kABCDEFGHi", -13, 12);
        dueFault("u1;kABCDEFGHh;", -15, 13);
        dueFault("u1;kABCDEFGHhgfedcba;", 1, NONE);
        dueFault("u1;kukKUzZ;", 1, NONE);
        dueThread("names u, k, z", laid("u1;kukKUzZ;"), 0, "abBAcC");
    }

    private static void promise4Fault() {
        at("Promise 4: fault");
        PretzelProof x = new PretzelProof();
        feedAll(x, "u1;kAB;");
        due("fault ahead of tray()", x.fault(), NONE);
        x.tray();
        due("fault of a thread", x.fault(), 6);
        x.feed('u');
        due("fault stays", x.fault(), 6);
        x.feed('1');
        x.feed(';');
        x.tray();
        due("no fault", x.fault(), NONE);
    }

    private static void promise5Told() {
        at("Promise 5: told");
        PretzelProof x = laid("u5;k" + TREFOIL + ";kAa;k;kABab;");
        x.feed('u');
        x.salt(1, 0, true);
        x.salt(0, 2, true);
        x.write(0, 3);
        due("told(0)", x.told(0), 4);
        due("told(1)", x.told(1), 1);
        due("told(2)", x.told(2), 3);
        due("told(3)", x.told(3), 6);
        due("told(4)", x.told(4), 2);
        due("told(5)", x.told(5), 4);
        due("told(6)", x.told(6), 12);
        due("told(7)", x.told(7), 1);
        due("told(8)", x.told(8), 2);
        due("told(9)", x.told(9), OUTSIDE);
        due("told(-1)", x.told(-1), OUTSIDE);
        due("told(LOW)", x.told(LOW), OUTSIDE);
        x.salt(1, 0, false);
        due("told(6) without salt", x.told(6), 14);
    }

    private static void promise6Pretzel() {
        at("Promise 6: pretzel");
        PretzelProof x = laid("u9;k" + TREFOIL + ";k" + EIGHT + ";k;kABab;kAbaB;");
        int[][] want = {
            {3, 0, 9, 5, 7, 1, 0}, {4, 0, 3, 25, 15, 1, 0}, {0, 0, 3, 5, 0, 0, 0}, {2, 0, 3, 5, 3, 0, 3}, {2, 0, 3, 5, 3, 0, 3},
        };
        for (int k = 0; k < want.length; k++) {
            for (int what = 0; what < 7; what++) {
                due("pretzel(" + k + ", " + what + ")", x.pretzel(k, what), want[k][what]);
            }
            due("pretzel(k, 7)", x.pretzel(k, 7), OUTSIDE);
            due("pretzel(k, -1)", x.pretzel(k, -1), OUTSIDE);
        }
        due("pretzel(5, 0)", x.pretzel(5, 0), UNKNOWN);
        due("pretzel(-1, 7)", x.pretzel(-1, 7), UNKNOWN);
        due("pretzel(HIGH, 7)", x.pretzel(HIGH, 7), UNKNOWN);
        x.salt(0, 2, true);
        x.salt(0, 0, true);
        due("salted is a set", x.pretzel(0, 1), 5);
        due("weak without salt", x.pretzel(0, 4), 7);
        due("switches without salt", x.pretzel(0, 5), 1);
    }

    private static void promise6Switches() {
        at("Promise 6: pretzel");
        PretzelProof x = laid("u0;kaBcAbCdEfDeF;kABCabc;kABcDadCb;kABaCbDcd;");
        due("two trefoils by 3", x.pretzel(0, 2), 27);
        due("two trefoils by 5", x.pretzel(0, 3), 5);
        due("two trefoils weak", x.pretzel(0, 4), 0);
        due("two trefoils switched", x.pretzel(0, 5), 9);
        due("ABCabc odd", x.pretzel(1, 6), 0);
        due("ABcDadCb switched", x.pretzel(2, 5), 2);
        due("ABcDadCb weak", x.pretzel(2, 4), 14);
        due("ABaCbDcd, in which no two are twice side by side, switched", x.pretzel(3, 5), NONE);
        due("ABaCbDcd weak", x.pretzel(3, 4), 0);
        due("ABaCbDcd odd", x.pretzel(3, 6), 9);
    }

    private static void promise7Pass() {
        at("Promise 7: pass");
        PretzelProof x = laid("u0;kzQqZ;k;");
        int[] want = {0, 3, 2, 1, NONE};
        for (int i = 0; i < want.length; i++) {
            due("pass(0, " + i + ")", x.pass(0, i), want[i]);
        }
        due("pass(0, -1)", x.pass(0, -1), NONE);
        due("pass(0, HIGH)", x.pass(0, HIGH), NONE);
        due("pass(1, 0)", x.pass(1, 0), NONE);
        due("pass(2, 0)", x.pass(2, 0), UNKNOWN);
        due("pass(-1, 0)", x.pass(-1, 0), UNKNOWN);
    }

    private static void promise8Moves() {
        at("Promise 8: moves");
        PretzelProof x = laid("u9;kABCcba;kAbCaBc;k;kABab;");
        int[] want = {0, 1, 12, 22, NONE};
        due("moves(0, NONE)", x.moves(0, NONE), 4);
        for (int i = 0; i < want.length; i++) {
            due("moves(0, " + i + ")", x.moves(0, i), want[i]);
        }
        due("moves(0, -2)", x.moves(0, -2), NONE);
        due("moves(1, NONE)", x.moves(1, NONE), 0);
        due("moves(1, 0)", x.moves(1, 0), NONE);
        due("moves(2, NONE)", x.moves(2, NONE), 0);
        due("moves(3, NONE)", x.moves(3, NONE), 1);
        due("moves(3, 0)", x.moves(3, 0), 1);
        due("moves(4, NONE)", x.moves(4, NONE), UNKNOWN);
        x.salt(0, 1, true);
        due("moves with salt", x.moves(0, NONE), 2);
        due("the second with salt", x.moves(0, 1), 22);
    }

    private static void promise9Shake() {
        at("Promise 9: shake");
        PretzelProof x = laid("u9;kABCcba;kabcABC;");
        due("shake of no pretzel", x.shake(2, 0, 0), UNKNOWN);
        due("shake of no crossing", x.shake(0, 3, 0), UNKNOWN);
        due("shake with no crossing", x.shake(0, 0, -1), UNKNOWN);
        due("no curl", x.shake(0, 1, 1), NOT);
        due("no poke", x.shake(0, 0, 2), NOT);
        x.salt(0, 0, true);
        due("salted", x.shake(0, 0, 1), NOT);
        due("salted curl", x.shake(0, 0, 0), NOT);
        due("the greater first", x.shake(0, 2, 1), 1);
        dueThread("what is left", x, 0, "Aa");
        due("salt stays", x.pretzel(0, 1), 1);
        due("a poke", x.shake(1, 0, 1), 1);
        dueThread("numbered anew", x, 1, "aA");
        due("undone", x.undo(), 2);
        dueThread("undone", x, 1, "abcABC");
        due("the other two", x.shake(1, 1, 2), 1);
    }

    private static void promise10Curl() {
        at("Promise 10: curl");
        PretzelProof x = laid("u9;kABab;k;kABCDEFGabcdefg;");
        x.salt(0, 0, true);
        due("curl ahead of all", x.curl(0, 0, true), 3);
        dueThread("ahead of all", x, 0, "AaBCbc");
        due("salt is renumbered", x.pretzel(0, 1), 2);
        due("curl within", x.curl(0, 3, false), 4);
        dueThread("within", x, 0, "AaBcCDbd");
        due("curl behind all", x.curl(0, 8, false), 5);
        dueThread("behind all", x, 0, "AaBcCDbdeE");
        due("curl(0, 11)", x.curl(0, 11, true), OUTSIDE);
        due("curl(0, -1)", x.curl(0, -1, true), OUTSIDE);
        due("curl of no pretzel", x.curl(3, -1, true), UNKNOWN);
        due("curl of a plain one", x.curl(1, 0, false), 1);
        dueThread("of a plain one", x, 1, "aA");
        due("the eighth", x.curl(2, 14, true), 8);
        due("the ninth", x.curl(2, 16, true), FULL);
        due("the ninth outside", x.curl(2, 17, true), OUTSIDE);
    }

    private static void promise11Turn() {
        at("Promise 11: turn");
        PretzelProof x = laid("u9;k" + TREFOIL + ";k;");
        due("turn", x.turn(0, 1), 3);
        dueThread("turned", x, 0, "abcABC");
        due("turned back", x.turn(0, 1), 9);
        dueThread("turned back", x, 0, TREFOIL);
        due("turn of no crossing", x.turn(0, 3), UNKNOWN);
        due("turn(0, -1)", x.turn(0, -1), UNKNOWN);
        due("turn of a plain one", x.turn(1, 0), UNKNOWN);
        due("turn of no pretzel", x.turn(2, 0), UNKNOWN);
        x.salt(0, 0, true);
        due("turn of a salted one", x.turn(0, 0), 3);
    }

    private static void promise12Reverse() {
        at("Promise 12: reverse");
        PretzelProof x = laid("u9;kABCacb;k;");
        x.salt(0, 0, true);
        due("reverse", x.reverse(0), 3);
        dueThread("reversed", x, 0, "abcBAC");
        due("salt goes with it", x.pretzel(0, 1), 4);
        due("reverse of a plain one", x.reverse(1), 0);
        due("reverse of none", x.reverse(2), UNKNOWN);
        due("undoable", x.told(8), 3);
    }

    private static void promise13Mirror() {
        at("Promise 13: mirror");
        PretzelProof x = laid("u9;kABCacb;k;");
        x.salt(0, 1, true);
        due("mirror", x.mirror(0), 3);
        dueThread("mirrored", x, 0, "abcACB");
        due("salt stays", x.pretzel(0, 1), 2);
        due("mirror of a plain one", x.mirror(1), 0);
        due("mirror of none", x.mirror(-1), UNKNOWN);
        due("undoable", x.told(8), 3);
    }

    private static void promise14Roll() {
        at("Promise 14: roll");
        PretzelProof x = laid("u9;kAbBaCc;k;");
        x.salt(0, 0, true);
        due("roll", x.roll(0), 0);
        dueThread("rolled", x, 0, "aAbCcB");
        due("salt goes with it", x.pretzel(0, 1), 2);
        due("roll again", x.roll(0), 1);
        due("roll of a plain one", x.roll(1), NONE);
        due("roll of none", x.roll(2), UNKNOWN);
        due("undoable", x.told(8), 4);
    }

    private static void promise15Join() {
        at("Promise 15: join");
        PretzelProof x = laid("u9;kAa;k" + TREFOIL + ";k;kABCDEabcde;");
        x.salt(0, 0, true);
        x.salt(1, 1, true);
        due("join", x.join(0, 1), 4);
        dueThread("joined", x, 0, "AabCdBcD");
        dueThread("the other one", x, 1, "");
        due("salt of both", x.pretzel(0, 1), 5);
        due("no salt is left", x.pretzel(1, 1), 0);
        due("salted of all", x.told(4), 2);
        due("join of a plain one", x.join(0, 2), 4);
        due("join to a plain one", x.join(2, 0), 4);
        due("join above eight", x.join(3, 2), FULL);
        due("join with itself", x.join(1, 1), UNKNOWN);
        due("join with none", x.join(1, 4), UNKNOWN);
        due("join to none", x.join(-1, 0), UNKNOWN);
        PretzelProof y = laid("u9;kABCDEabcde;k" + TREFOIL + ";");
        due("join to eight", y.join(0, 1), 8);
        dueThread("eight", y, 0, "ABCDEabcdefGhFgH");
    }

    private static void promise16Salt() {
        at("Promise 16: salt");
        PretzelProof x = laid("u2;k" + TREFOIL + ";k;");
        due("off where none is", x.salt(0, 0, false), NOT);
        due("salt", x.salt(0, 0, true), 1);
        due("salt again", x.salt(0, 0, true), NOT);
        due("salt of another", x.salt(0, 2, true), 0);
        due("the bin is empty", x.salt(0, 1, true), NOT);
        due("no crossing, empty bin", x.salt(0, 3, true), UNKNOWN);
        due("no pretzel", x.salt(2, 0, true), UNKNOWN);
        due("a plain one", x.salt(1, 0, true), UNKNOWN);
        due("taken off", x.salt(0, 0, false), 1);
        due("salted", x.pretzel(0, 1), 4);
        due("undone", x.undo(), 2);
        due("grains undone", x.told(2), 0);
        due("salted undone", x.pretzel(0, 1), 5);
    }

    private static void promise17Drift() {
        at("Promise 17: drift");
        PretzelProof x = laid("u3;kaBcAbC;kABba;kaBcAdCbD;k;kxXyYzZ;");
        due("drift(0)", x.drift(0), OUTSIDE);
        due("drift(31)", x.drift(31), OUTSIDE);
        due("drift(-1) of no tray", new PretzelProof().drift(-1), OUTSIDE);
        x.shake(4, 0, 0);
        x.seed(5);
        due("drift(20)", x.drift(20), 11);
        due("drift is undone at once", x.undo(), 1);
        due("crossings then", x.told(3), 11);
        dueThread("thread then", x, 0, TREFOIL);
        PretzelProof none = laid("u3;");
        none.seed(9);
        due("drift of no pretzels", none.drift(30), 0);
        due("no draw without pretzels", none.seed(0), 9);
        due("drift of no pretzels can be undone", none.undo(), 0);
        PretzelProof full = laid("u0;kABCDEFGHabcdefgh;");
        full.seed(1);
        for (int i = 0; i < 40; i++) {
            int crossings = full.drift(30);
            due("never above eight", crossings >= 0 && crossings <= 8 ? 0 : 1, 0);
        }
    }

    private static void promise18Undo() {
        at("Promise 18: undo");
        PretzelProof x = laid("u9;kABCDabcd;");
        for (int i = 0; i < 20; i++) {
            x.roll(0);
        }
        due("sixteen are kept", x.told(8), 16);
        for (int i = 15; i >= 0; i--) {
            due("undo", x.undo(), i);
        }
        due("undo of none", x.undo(), NOT);
        dueThread("four are lost", x, 0, "abcdABCD");
        x.seed(4);
        x.drift(1);
        int seed = x.seed(0);
        x.seed(seed);
        x.undo();
        due("the seed stays", x.seed(0), seed);
        x.write(0, 4);
        x.curl(0, 0, true);
        x.undo();
        due("the book stays", x.told(7), 1);
        x.turn(0, 9);
        due("what is refused is not kept", x.told(8), 0);
    }

    private static void promise19ToShake() {
        at("Promise 19: toShake");
        PretzelProof x = laid("u9;k" + TREFOIL + ";kABba;kaAbBcC;k;kABCDdcba;");
        int[][] want = {{3, 0, 1, NONE}, {0, 1, 4, 1}, {0, 3, 8, 0}, {0, 0, 1, NONE}, {0, 2, 12, 1}};
        for (int k = 0; k < want.length; k++) {
            for (int what = 0; what < 4; what++) {
                due("toShake(" + k + ", " + what + ")", x.toShake(k, what), want[k][what]);
            }
        }
        due("toShake(0, 4)", x.toShake(0, 4), OUTSIDE);
        due("toShake(0, -1)", x.toShake(0, -1), OUTSIDE);
        due("toShake(5, 4)", x.toShake(5, 4), UNKNOWN);
        x.salt(1, 0, true);
        int[] salted = {1, 1, 2, 11};
        for (int what = 0; what < 4; what++) {
            due("toShake(1, " + what + ") with salt", x.toShake(1, what), salted[what]);
        }
        dueThread("nothing changes", x, 4, "ABCDdcba");
    }

    private static void promise20Within() {
        at("Promise 20: within");
        PretzelProof x = laid("u9;kABaCcb;k;");
        due("within(0, 0)", x.within(0, 0), 2);
        due("within(0, 1)", x.within(0, 1), 1);
        due("within(0, 2)", x.within(0, 2), 0);
        due("within(0, 3)", x.within(0, 3), UNKNOWN);
        due("within(1, 0)", x.within(1, 0), UNKNOWN);
        due("within(2, 0)", x.within(2, 0), UNKNOWN);
        due("odd", x.pretzel(0, 6), 3);
    }

    private static void promise21Same() {
        at("Promise 21: same");
        PretzelProof x = laid("u9;k" + TREFOIL + ";kAbCaBc;kABaCcb;kABCcba;kCABbca;");
        due("a trefoil", x.same(0, 1), 15);
        due("none", x.same(0, 2), 0);
        due("with itself", x.same(1, 1), UNKNOWN);
        due("with none", x.same(1, 5), UNKNOWN);
        due("of none", x.same(-1, 0), UNKNOWN);
        PretzelProof y = laid("u9;kAabBCc;kAaBbcC;kaAbBCc;kABbCac;kABaCcb;");
        due("rolled", y.same(0, 1), 9);
        due("rolled back", y.same(1, 0), 9);
        due("mirrored", y.same(0, 2), 6);
        due("plain ones", laid("u0;k;k;").same(0, 1), 15);
        y.salt(0, 0, true);
        due("salt is no matter", y.same(0, 1), 9);
    }

    private static void promise22Tells() {
        at("Promise 22: tells");
        PretzelProof x = laid("u9;k" + TREFOIL + ";k" + EIGHT + ";k;kABab;kAaBb;");
        due("trefoil and eight", x.tells(0, 1), 7);
        due("trefoil and plain", x.tells(0, 2), 5);
        due("eight and plain", x.tells(1, 2), 6);
        due("ABab and plain", x.tells(3, 2), 0);
        x.salt(4, 0, true);
        due("salt is no matter", x.tells(4, 2), 0);
        due("with itself", x.tells(0, 0), UNKNOWN);
        due("with none", x.tells(0, 5), UNKNOWN);
        due("of none", x.tells(-1, 0), UNKNOWN);
    }

    private static void promise23Words() {
        at("Promise 23: words");
        PretzelProof x = laid("u9;kABCacb;k;");
        PretzelProof y = laid("u9;kABcbCa;");
        for (int i = 0; i < 6; i++) {
            due("words(0, " + i + ")", x.words(0, i), leastOf("ABCacb", i));
        }
        due("words behind the end", x.words(0, 6), NONE);
        due("words(0, -1)", x.words(0, -1), NONE);
        due("words of a plain one", x.words(1, 0), NONE);
        due("words of none", x.words(2, 0), UNKNOWN);
        for (int i = 0; i < 6; i++) {
            due("words of another", y.words(0, i), leastOf("ABcbCa", i));
        }
    }

    /** By rolling the letters themselves. */
    private static int leastOf(String thread, int i) {
        String least = null;
        for (int from = 0; from < thread.length(); from++) {
            String rolled = thread.substring(from) + thread.substring(0, from);
            StringBuilder names = new StringBuilder();
            StringBuilder row = new StringBuilder();
            for (char letter : rolled.toCharArray()) {
                String name = Character.toString(letter).toLowerCase();
                if (names.indexOf(name) < 0) {
                    names.append(name);
                }
                row.append((char) (2 * names.indexOf(name) + (Character.isUpperCase(letter) ? 1 : 0)));
            }
            least = least == null || row.toString().compareTo(least) < 0 ? row.toString() : least;
        }
        return least.charAt(i);
    }

    private static void promise24Colour() {
        at("Promise 24: colour");
        PretzelProof x = laid("u9;k" + TREFOIL + ";k" + EIGHT + ";k;kaBcAbCdD;kdDaBcAbC;");
        int[][] want = {{0, 1, 2, NONE}, {NONE, NONE, NONE, NONE}, {NONE, NONE, NONE, NONE}, {0, 1, 2, 2}, {0, 1, 2, 0}};
        for (int k = 0; k < want.length; k++) {
            for (int part = 0; part < 4; part++) {
                due("colour(" + k + ", " + part + ")", x.colour(k, part), want[k][part]);
            }
            due("colour(k, -1)", x.colour(k, -1), NONE);
            due("colour(k, HIGH)", x.colour(k, HIGH), NONE);
        }
        due("colour of none", x.colour(5, 0), UNKNOWN);
    }

    private static void promise25Whole() {
        at("Promise 25: whole");
        PretzelProof x = new PretzelProof();
        due("whole(0, 0)", x.whole(0, 0), 1000000000);
        due("whole(1, 0)", x.whole(1, 0), 0);
        due("whole(1, 1)", x.whole(1, 1), 10000000);
        due("whole(60, 100)", x.whole(60, 100), 1000000000);
        due("whole(5, 33), cut each time", x.whole(5, 33), 3913539);
        due("whole(6, 33), cut each time", x.whole(6, 33), 1291467);
        due("whole(60, 99)", x.whole(60, 99), wholeBelow(60, 99));
        due("whole(-1, 50)", x.whole(-1, 50), OUTSIDE);
        due("whole(61, 50)", x.whole(61, 50), OUTSIDE);
        due("whole(5, -1)", x.whole(5, -1), OUTSIDE);
        due("whole(5, 101)", x.whole(5, 101), OUTSIDE);
    }

    private static int wholeBelow(int n, int q) {
        return n == 0 ? 1000000000 : (int) ((long) wholeBelow(n - 1, q) * q / 100);
    }

    private static void promise26To28Book() {
        at("Promises 26 write, 27 tear, 28 judge");
        PretzelProof x = laid("u9;k" + TREFOIL + ";k;");
        due("write", x.write(0, 3), 1);
        due("judge", x.judge(), NONE);
        due("write", x.write(1, 8), 2);
        due("write", x.write(0, 0), 3);
        due("judge", x.judge(), 1);
        due("write of 9", x.write(0, 9), OUTSIDE);
        due("write of -1", x.write(0, -1), OUTSIDE);
        due("write of none", x.write(2, 9), UNKNOWN);
        for (int i = 4; i <= 15; i++) {
            due("write", x.write(0, 3), i);
        }
        due("the sixteenth", x.write(0, 3), FULL);
        due("the sixteenth outside", x.write(0, 9), OUTSIDE);
        due("tear", x.tear(), 15);
        due("tear again", x.tear(), 0);
        due("judge of none", x.judge(), NONE);
        x.write(0, 3);
        x.write(1, 0);
        x.join(1, 0);
        due("judge of what is so now", x.judge(), 0);
        x.undo();
        due("judge behind undo", x.judge(), NONE);
    }

    private static void promise29Seed() {
        at("Promise 29: seed");
        PretzelProof x = laid("u0;k;");
        due("seed", x.seed(HIGH), 0);
        due("seed(-1)", x.seed(-1), OUTSIDE);
        due("seed(LOW)", x.seed(LOW), OUTSIDE);
        due("seed(0)", x.seed(0), HIGH);
        x.seed(0);
        // The first draw is 0 (12345 / 65536), so a plain one is to be shaken: no draw but these two.
        x.drift(1);
        due("two draws", x.seed(0), (int) ((12345L * 1103515245L + 12345L) % (1L << 31)));
    }

    private static void promise30And31Images() {
        at("Promises 30 keep, 31 goBack");
        PretzelProof x = laid("u9;k" + TREFOIL + ";kAa;");
        due("keep(-1)", x.keep(-1), UNKNOWN);
        due("keep(2)", x.keep(2), UNKNOWN);
        due("goBack(2)", x.goBack(2), UNKNOWN);
        due("goBack(-1)", x.goBack(-1), UNKNOWN);
        due("goBack to none", x.goBack(1), NOT);
        x.seed(11);
        x.salt(0, 1, true);
        due("keep", x.keep(0), 1);
        due("nothing can be undone", x.undo(), NOT);
        x.join(0, 1);
        x.salt(0, 0, true);
        x.seed(22);
        due("keep the other", x.keep(1), 1);
        x.write(0, 4);
        x.mirror(0);
        due("goBack", x.goBack(0), 1);
        due("nothing can be undone then", x.told(8), 0);
        dueThread("the first image", x, 0, TREFOIL);
        dueThread("the first image's other one", x, 1, "Aa");
        due("its salt", x.pretzel(0, 1), 2);
        due("its grains", x.told(2), 8);
        due("the book stays", x.told(7), 1);
        due("its seed", x.seed(33), 11);
        x.mirror(0);
        due("goBack again", x.goBack(0), 1);
        dueThread("the first image again", x, 0, TREFOIL);
        due("goBack to the other", x.goBack(1), 1);
        dueThread("the other image", x, 0, "aBcAbCDd");
        due("the other's salt", x.pretzel(0, 1), 3);
        due("the other's seed", x.seed(0), 22);
    }

    private static void refusalsChangeNothing() {
        at("Terms: 'What is refused changes nothing'");
        PretzelProof x = laid("u0;k" + TREFOIL + ";kABCDEFGHabcdefgh;");
        x.feed('u');
        x.seed(5);
        x.shake(0, 0, 1);
        x.shake(0, 9, 9);
        x.curl(1, 0, true);
        x.curl(0, 7, true);
        x.turn(0, -1);
        x.reverse(7);
        x.mirror(7);
        x.roll(7);
        x.join(0, 1);
        x.join(0, 0);
        x.salt(0, 0, true);
        x.drift(0);
        x.write(0, 9);
        x.seed(-5);
        x.keep(5);
        x.goBack(0);
        x.feed(-5);
        due("letters", x.told(1), 1);
        due("undoable", x.told(8), 0);
        due("entries", x.told(7), 0);
        due("crossings", x.told(3), 11);
        dueThread("the first", x, 0, TREFOIL);
        dueThread("the second", x, 1, "ABCDEFGHabcdefgh");
        due("the seed", x.seed(0), 5);
    }
}
