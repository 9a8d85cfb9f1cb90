import java.util.ArrayDeque;
import java.util.ArrayList;
import java.util.Arrays;
import java.util.Collections;
import java.util.Deque;
import java.util.HashMap;
import java.util.HashSet;
import java.util.LinkedHashMap;
import java.util.List;
import java.util.Map;
import java.util.Random;
import java.util.Set;
import java.util.TreeSet;

/**
 * Runs of calls by chance (always the same), each answer compared with a second program that takes the
 * document at its word: it tries every row of moves, every colouring and every set of switches.
 */
public final class ModelRuns {
    private static final int NONE = -1, UNKNOWN = -1000000001, OUTSIDE = -1000000002, NOT = -1000000003, FULL = -1000000004;
    private static final int RUNS = 1500;
    private static final int CALLS = 300;
    private static final int[] FAR = {Integer.MIN_VALUE, Integer.MAX_VALUE, -65536, 65536, 31, 32, 33, 64, 256, UNKNOWN, FULL};
    private static int wrong = 0;

    public static void main(String[] args) {
        for (int run = 0; run < RUNS && wrong < 20; run++) {
            playRun(run);
        }
        for (int run = 0; run < 40000 && wrong < 20; run++) {
            readText(run);
        }
        for (int names = 0; names <= 4 && wrong < 20; names++) {
            tryEveryThread(names, "", 0);
        }
        for (int run = 0; run < 400 && wrong < 20; run++) {
            tryThread(woundThread(new Random(2000000L + run), 5 + run % 4));
        }
        for (int run = 0; run < 10000 && wrong < 20; run++) {
            trySalted(run);
        }
        System.out.println(wrong == 0 ? "all answers are the model's" : wrong + " answers are not the model's");
        if (wrong != 0) {
            System.exit(1);
        }
    }

    // ---- what is asked

    private static void playRun(int run) {
        Random chance = new Random(run);
        PretzelProof real = new PretzelProof();
        Model model = new Model();
        List<String> calls = new ArrayList<>();
        int most = run % 4 == 0 ? 8 : 1 + run % 8;
        for (int i = 0; i < CALLS && wrong < 20; i++) {
            if (i == 0 && run % 10 != 0 || chance.nextInt(120) == 0) {
                feedAll(goodText(chance, most), real, model, calls);
                compare(run, calls, "tray()", real.tray(), model.tray());
            } else {
                oneCall(run, chance, real, model, calls);
            }
        }
    }

    private static void feedAll(String text, PretzelProof real, Model model, List<String> calls) {
        for (char letter : text.toCharArray()) {
            real.feed(letter);
            model.feed(letter);
        }
        calls.add("feed all of '" + text + "'");
    }

    private static void oneCall(int run, Random chance, PretzelProof real, Model model, List<String> calls) {
        int k = chance.nextInt(30) == 0 ? chance.nextInt(9) - 2 : chance.nextInt(Math.max(1, model.ropes.size()));
        int q = chance.nextInt(30) == 0 ? chance.nextInt(9) - 2 : chance.nextInt(Math.max(1, model.ropes.size()));
        int n = k >= 0 && k < model.ropes.size() ? model.ropes.get(k).size() / 2 : 0;
        int c = chance.nextInt(30) == 0 ? chance.nextInt(14) - 3 : chance.nextInt(Math.max(1, n));
        int d = chance.nextInt(4) == 0 ? c : chance.nextInt(Math.max(1, n));
        int i = chance.nextInt(2 * n + 3) - 1;
        boolean yes = chance.nextBoolean();
        if (chance.nextInt(40) == 0) {
            int far = FAR[chance.nextInt(FAR.length)];
            int which = chance.nextInt(5);
            k = which == 0 ? far : k;
            q = which == 1 ? far : q;
            c = which == 2 ? far : c;
            d = which == 3 ? far : d;
            i = which == 4 ? far : i;
        }
        String at = "(" + k + ", ";
        switch (chance.nextInt(32)) {
            case 0: {
                int what = chance.nextInt(11) - 1;
                compare(run, calls, "told(" + what + ")", real.told(what), model.told(what));
                break;
            }
            case 1: case 2: case 3: {
                int what = chance.nextInt(9) - 1;
                compare(run, calls, "pretzel" + at + what + ")", real.pretzel(k, what), model.pretzel(k, what));
                break;
            }
            case 4: case 5: compare(run, calls, "pass" + at + i + ")", real.pass(k, i), model.pass(k, i)); break;
            case 6: case 7: compare(run, calls, "moves" + at + i + ")", real.moves(k, i), model.moves(k, i)); break;
            case 8: {
                int move = model.moves(k, chance.nextInt(4));
                int one = move < 0 || chance.nextInt(3) == 0 ? c : move / 10;
                int two = move < 0 || chance.nextInt(3) == 0 ? d : move % 10;
                int a = yes ? one : two;
                int b = yes ? two : one;
                compare(run, calls, "shake" + at + a + ", " + b + ")", real.shake(k, a, b), model.shake(k, a, b));
                break;
            }
            case 9: case 10: compare(run, calls, "curl" + at + i + ", " + yes + ")", real.curl(k, i, yes), model.curl(k, i, yes)); break;
            case 11: compare(run, calls, "turn" + at + c + ")", real.turn(k, c), model.turn(k, c)); break;
            case 12: compare(run, calls, "reverse(" + k + ")", real.reverse(k), model.reverse(k)); break;
            case 13: compare(run, calls, "mirror(" + k + ")", real.mirror(k), model.mirror(k)); break;
            case 14: compare(run, calls, "roll(" + k + ")", real.roll(k), model.roll(k)); break;
            case 15: compare(run, calls, "join" + at + q + ")", real.join(k, q), model.join(k, q)); break;
            case 16: case 17: compare(run, calls, "salt" + at + c + ", " + yes + ")", real.salt(k, c, yes), model.salt(k, c, yes)); break;
            case 18: {
                int many = chance.nextInt(33) - 1;
                compare(run, calls, "drift(" + many + ")", real.drift(many), model.drift(many));
                break;
            }
            case 19: case 20: compare(run, calls, "undo()", real.undo(), model.undo()); break;
            case 21: case 22: {
                int what = chance.nextInt(6) - 1;
                compare(run, calls, "toShake" + at + what + ")", real.toShake(k, what), model.toShake(k, what));
                break;
            }
            case 23: compare(run, calls, "within" + at + c + ")", real.within(k, c), model.within(k, c)); break;
            case 24: compare(run, calls, "same" + at + q + ")", real.same(k, q), model.same(k, q)); break;
            case 25: compare(run, calls, "tells" + at + q + ")", real.tells(k, q), model.tells(k, q)); break;
            case 26: compare(run, calls, "words" + at + i + ")", real.words(k, i), model.words(k, i)); break;
            case 27: compare(run, calls, "colour" + at + i + ")", real.colour(k, i), model.colour(k, i)); break;
            case 28: bookCall(run, chance, k, real, model, calls); break;
            case 29: imageCall(run, chance, real, model, calls); break;
            case 30: {
                int many = chance.nextInt(64) - 1;
                int of = chance.nextInt(104) - 1;
                compare(run, calls, "whole(" + many + ", " + of + ")", real.whole(many, of), model.whole(many, of));
                break;
            }
            default: {
                int v = chance.nextInt();
                compare(run, calls, "seed(" + v + ")", real.seed(v), model.seed(v));
                break;
            }
        }
    }

    private static void bookCall(int run, Random chance, int k, PretzelProof real, Model model, List<String> calls) {
        int what = chance.nextInt(8);
        int many = chance.nextInt(11) - 1;
        if (what == 0) {
            compare(run, calls, "tear()", real.tear(), model.tear());
        } else if (what < 4) {
            compare(run, calls, "judge()", real.judge(), model.judge());
        } else {
            int told = what < 7 && k >= 0 && k < model.ropes.size() ? model.ropes.get(k).size() / 2 : many;
            compare(run, calls, "write(" + k + ", " + told + ")", real.write(k, told), model.write(k, told));
        }
    }

    private static void imageCall(int run, Random chance, PretzelProof real, Model model, List<String> calls) {
        int i = chance.nextInt(4) - 1;
        if (chance.nextBoolean()) {
            compare(run, calls, "keep(" + i + ")", real.keep(i), model.keep(i));
        } else {
            compare(run, calls, "goBack(" + i + ")", real.goBack(i), model.goBack(i));
        }
    }

    private static String goodText(Random chance, int most) {
        StringBuilder text = new StringBuilder("u" + chance.nextInt(100) + ";");
        int pretzels = chance.nextInt(6);
        for (int k = 0; k < pretzels; k++) {
            int names = chance.nextInt(most + 1);
            text.append('k').append(chance.nextBoolean() ? thread(chance, names) : woundThread(chance, Math.min(8, names))).append(';');
        }
        return text.toString();
    }

    private static String thread(Random chance, int names) {
        List<Character> letters = new ArrayList<>();
        List<Integer> alphabet = new ArrayList<>();
        for (int i = 0; i < 26; i++) {
            alphabet.add(i);
        }
        Collections.shuffle(alphabet, chance);
        for (int i = 0; i < names; i++) {
            letters.add((char) ('A' + alphabet.get(i)));
            letters.add((char) ('a' + alphabet.get(i)));
        }
        Collections.shuffle(letters, chance);
        StringBuilder text = new StringBuilder();
        for (char letter : letters) {
            text.append(letter);
        }
        return text.toString();
    }

    /** Curls and pokes put in one after the other, and now and then a switch: a thread that moves can take much from. */
    private static String woundThread(Random chance, int names) {
        StringBuilder text = new StringBuilder();
        for (int c = 0; c < names; c++) {
            String great = Character.toString((char) ('A' + c));
            String small = great.toLowerCase();
            boolean poke = c + 1 < names && chance.nextInt(3) != 0;
            if (poke) {
                c++;
                great += (char) ('A' + c);
                small += (char) ('a' + c);
                small = chance.nextBoolean() ? small : new StringBuilder(small).reverse().toString();
            }
            int where = chance.nextInt(text.length() + 1);
            text.insert(where, great);
            text.insert(poke ? chance.nextInt(text.length() + 1) : where + chance.nextInt(2), small);
        }
        if (names > 0 && chance.nextInt(3) == 0) {
            char of = (char) ('A' + chance.nextInt(names));
            int great = text.indexOf(Character.toString(of));
            int small = text.indexOf(Character.toString(of).toLowerCase());
            text.setCharAt(great, Character.toLowerCase(of));
            text.setCharAt(small, of);
        }
        return text.toString();
    }

    /** All threads of so many names, which come in the order of the alphabet. */
    private static void tryEveryThread(int names, String text, int begun) {
        if (text.length() == 2 * names) {
            tryThread(text);
            return;
        }
        for (int c = 0; c <= begun && c < names; c++) {
            for (char letter : new char[] {(char) ('A' + c), (char) ('a' + c)}) {
                if (text.indexOf(letter) < 0) {
                    tryEveryThread(names, text + letter, Math.max(begun, c + 1));
                }
            }
        }
    }

    /** All that can be asked of one thread. */
    private static void tryThread(String thread) {
        PretzelProof real = new PretzelProof();
        Model model = new Model();
        List<String> calls = new ArrayList<>();
        feedAll("u0;k" + thread + ";", real, model, calls);
        compare(0, calls, "tray()", real.tray(), model.tray());
        for (int i = -1; i <= thread.length(); i++) {
            compare(0, calls, "pretzel(0, " + i + ")", real.pretzel(0, i), model.pretzel(0, i));
            compare(0, calls, "pass(0, " + i + ")", real.pass(0, i), model.pass(0, i));
            compare(0, calls, "moves(0, " + i + ")", real.moves(0, i), model.moves(0, i));
            compare(0, calls, "toShake(0, " + i + ")", real.toShake(0, i), model.toShake(0, i));
            compare(0, calls, "within(0, " + i + ")", real.within(0, i), model.within(0, i));
            compare(0, calls, "words(0, " + i + ")", real.words(0, i), model.words(0, i));
            compare(0, calls, "colour(0, " + i + ")", real.colour(0, i), model.colour(0, i));
        }
        for (int what = 0; what < 7; what++) {
            compare(0, calls, "pretzel(0, " + what + ")", real.pretzel(0, what), model.pretzel(0, what));
            compare(0, calls, "toShake(0, " + what + ")", real.toShake(0, what), model.toShake(0, what));
        }
    }

    /** Where salt holds a few, like few ones can often be left as other sets, by rows of moves that are not alike. */
    private static void trySalted(int run) {
        Random chance = new Random(3000000L + run);
        PretzelProof real = new PretzelProof();
        Model model = new Model();
        List<String> calls = new ArrayList<>();
        int names = 4 + run % 5;
        feedAll("u9;k" + woundThread(chance, names) + ";", real, model, calls);
        compare(run, calls, "tray()", real.tray(), model.tray());
        for (int many = chance.nextInt(3); many >= 0; many--) {
            int c = chance.nextInt(names);
            compare(run, calls, "salt(0, " + c + ", true)", real.salt(0, c, true), model.salt(0, c, true));
        }
        for (int what = 0; what < 4; what++) {
            compare(run, calls, "toShake(0, " + what + ")", real.toShake(0, what), model.toShake(0, what));
        }
        compare(run, calls, "told(6)", real.told(6), model.told(6));
    }

    /** Texts with a letter put in, taken out or changed, so that most have a fault. */
    private static void readText(int run) {
        Random chance = new Random(1000000L + run);
        PretzelProof real = new PretzelProof();
        Model model = new Model();
        List<String> calls = new ArrayList<>();
        StringBuilder text = new StringBuilder(goodText(chance, 9));
        String signs = "uk;AaBbZz 0123456789" + (char) 0 + (char) 255 + "{@[`/:  ";
        for (int i = chance.nextInt(4); i > 0 && text.length() > 0; i--) {
            int where = chance.nextInt(text.length());
            char sign = signs.charAt(chance.nextInt(signs.length()));
            int how = chance.nextInt(4);
            if (how == 0) {
                text.deleteCharAt(where);
            } else if (how == 1) {
                text.setCharAt(where, sign);
            } else if (how == 2) {
                text.insert(where, sign);
            } else {
                text.setLength(where);
            }
        }
        if (chance.nextInt(10) == 0) {
            text.append("kAa;kBb;k;kCc;k");
        }
        feedAll(text.toString(), real, model, calls);
        compare(run, calls, "told(1)", real.told(1), model.told(1));
        compare(run, calls, "tray()", real.tray(), model.tray());
        compare(run, calls, "fault()", real.fault(), model.faultAt);
        for (int what = 0; what < 9; what++) {
            if (what != 6) {
                compare(run, calls, "told(" + what + ")", real.told(what), model.told(what));
            }
        }
        compare(run, calls, "drift(1)", real.drift(1), model.drift(1));
    }

    private static void compare(int run, List<String> calls, String call, int got, int want) {
        calls.add(call + " = " + want);
        if (got != want) {
            wrong++;
            System.out.println("run " + run + ": " + call + " answered " + got + ", the model says " + want);
            System.out.println("  after " + calls.subList(Math.max(0, calls.size() - 12), calls.size()));
        }
    }

    // ---- the second program

    /** A pass: the crossing is an object of its own, so that nothing depends on numbers. */
    private record Pass(Crossing of, boolean over) { }

    private static final class Crossing {
        boolean salted;
    }

    private static final class State {
        final List<List<Pass>> ropes = new ArrayList<>();
        int grains;
        long seed;
    }

    private static final class Model {
        List<List<Pass>> ropes = new ArrayList<>();
        int grains;
        long seed;
        boolean laid;
        String text = "";
        int faultAt = NONE;
        final Deque<State> before = new ArrayDeque<>();
        final State[] images = new State[2];
        final List<int[]> book = new ArrayList<>();

        int feed(int letter) {
            if (letter < 0 || letter > 255) {
                return OUTSIDE;
            }
            if (text.length() == 240) {
                return FULL;
            }
            text += (char) letter;
            return text.length();
        }

        int tray() {
            String told = text;
            text = "";
            Parser parser = new Parser(told);
            parser.parse();
            faultAt = parser.fault == 0 ? NONE : parser.at;
            if (parser.fault != 0) {
                return -10 - parser.fault;
            }
            ropes = parser.ropes;
            grains = parser.grains;
            laid = !told.replace(" ", "").isEmpty();
            book.clear();
            before.clear();
            images[0] = null;
            images[1] = null;
            return ropes.size();
        }

        boolean unknown(int k) {
            return k < 0 || k >= ropes.size();
        }

        boolean unknown(int k, int c) {
            return unknown(k) || c < 0 || c >= ropes.get(k).size() / 2;
        }

        int told(int what) {
            int sum = 0;
            switch (what) {
                case 0: return ropes.size();
                case 1: return text.length();
                case 2: return grains;
                case 3:
                    for (List<Pass> rope : ropes) {
                        sum += rope.size() / 2;
                    }
                    return sum;
                case 4:
                    for (List<Pass> rope : ropes) {
                        for (Crossing c : crossings(rope)) {
                            sum += c.salted ? 1 : 0;
                        }
                    }
                    return sum;
                case 5:
                    for (int k = 0; k < ropes.size(); k++) {
                        sum += ropes.get(k).isEmpty() ? 1 << k : 0;
                    }
                    return sum;
                case 6:
                    for (int k = 0; k < ropes.size(); k++) {
                        sum += new Search(ropes.get(k), true).fewest == 0 ? 1 << k : 0;
                    }
                    return sum;
                case 7: return book.size();
                case 8: return before.size();
                default: return OUTSIDE;
            }
        }

        int pretzel(int k, int what) {
            if (unknown(k)) {
                return UNKNOWN;
            }
            List<Pass> rope = ropes.get(k);
            List<Crossing> all = crossings(rope);
            int set = 0;
            switch (what) {
                case 0: return all.size();
                case 1:
                    for (int c = 0; c < all.size(); c++) {
                        set += all.get(c).salted ? 1 << c : 0;
                    }
                    return set;
                case 2: return ways(rope, 3, null);
                case 3: return ways(rope, 5, null);
                case 4:
                    for (int c = 0; c < all.size(); c++) {
                        set += new Search(switched(rope, 1 << c), false).fewest == 0 ? 1 << c : 0;
                    }
                    return set;
                case 5: return switches(rope);
                case 6:
                    for (int c = 0; c < all.size(); c++) {
                        set += Integer.bitCount(inside(rope, c)) % 2 << c;
                    }
                    return set;
                default: return OUTSIDE;
            }
        }

        int pass(int k, int i) {
            if (unknown(k)) {
                return UNKNOWN;
            }
            List<Integer> row = row(ropes.get(k));
            return i < 0 || i >= row.size() ? NONE : row.get(i);
        }

        int moves(int k, int i) {
            if (unknown(k)) {
                return UNKNOWN;
            }
            List<Integer> found = moveNumbers(ropes.get(k), crossings(ropes.get(k)), true);
            if (i == NONE) {
                return found.size();
            }
            return i < 0 || i >= found.size() ? NONE : found.get(i);
        }

        int shake(int k, int c, int d) {
            if (unknown(k, c) || unknown(k, d)) {
                return UNKNOWN;
            }
            List<Pass> rope = ropes.get(k);
            List<Crossing> all = crossings(rope);
            if (!isMove(rope, all.get(c), all.get(d), true)) {
                return NOT;
            }
            remember();
            ropes.set(k, without(rope, all.get(c), all.get(d)));
            return ropes.get(k).size() / 2;
        }

        int curl(int k, int i, boolean overFirst) {
            if (unknown(k)) {
                return UNKNOWN;
            }
            List<Pass> rope = ropes.get(k);
            if (i < 0 || i > rope.size()) {
                return OUTSIDE;
            }
            if (rope.size() == 16) {
                return FULL;
            }
            remember();
            putCurl(k, i, overFirst);
            return ropes.get(k).size() / 2;
        }

        void putCurl(int k, int i, boolean overFirst) {
            Crossing fresh = new Crossing();
            List<Pass> rope = new ArrayList<>(ropes.get(k));
            rope.addAll(i, List.of(new Pass(fresh, overFirst), new Pass(fresh, !overFirst)));
            ropes.set(k, rope);
        }

        int turn(int k, int c) {
            if (unknown(k, c)) {
                return UNKNOWN;
            }
            remember();
            ropes.set(k, switched(ropes.get(k), 1 << c));
            return ways(ropes.get(k), 3, null);
        }

        int reverse(int k) {
            if (unknown(k)) {
                return UNKNOWN;
            }
            remember();
            ropes.set(k, reversed(ropes.get(k)));
            return ropes.get(k).size() / 2;
        }

        int mirror(int k) {
            if (unknown(k)) {
                return UNKNOWN;
            }
            remember();
            ropes.set(k, switched(ropes.get(k), 255));
            return ropes.get(k).size() / 2;
        }

        int roll(int k) {
            if (unknown(k)) {
                return UNKNOWN;
            }
            remember();
            ropes.set(k, rolled(ropes.get(k), 1));
            return pass(k, 0);
        }

        int join(int k, int q) {
            if (unknown(k) || unknown(q) || k == q) {
                return UNKNOWN;
            }
            if (ropes.get(k).size() + ropes.get(q).size() > 16) {
                return FULL;
            }
            remember();
            List<Pass> both = new ArrayList<>(ropes.get(k));
            both.addAll(ropes.get(q));
            ropes.set(k, both);
            ropes.set(q, new ArrayList<>());
            return both.size() / 2;
        }

        int salt(int k, int c, boolean is) {
            if (unknown(k, c)) {
                return UNKNOWN;
            }
            Crossing of = crossings(ropes.get(k)).get(c);
            if (of.salted == is) {
                return NOT;
            }
            if (is && grains == 0) {
                return NOT;
            }
            remember();
            crossings(ropes.get(k)).get(c).salted = is;
            grains = is ? grains - 1 : grains + 1;
            return grains;
        }

        int drift(int n) {
            if (n < 1 || n > 30) {
                return OUTSIDE;
            }
            if (!laid) {
                return NOT;
            }
            remember();
            for (int i = 0; i < n; i++) {
                if (!ropes.isEmpty()) {
                    driftOnce();
                }
            }
            return told(3);
        }

        void driftOnce() {
            int what = draw(5);
            int k = draw(ropes.size());
            List<Pass> rope = ropes.get(k);
            List<Crossing> all = crossings(rope);
            if (what == 0) {
                List<Integer> found = moveNumbers(rope, all, true);
                if (!found.isEmpty()) {
                    ropes.set(k, without(rope, all.get(found.get(0) / 10), all.get(found.get(0) % 10)));
                }
            } else if (what == 1) {
                if (all.size() < 8) {
                    int place = draw(rope.size() + 1);
                    putCurl(k, place, draw(2) == 1);
                }
            } else if (what == 2) {
                if (!all.isEmpty()) {
                    ropes.set(k, switched(rope, 1 << draw(all.size())));
                }
            } else if (what == 3) {
                ropes.set(k, reversed(rope));
            } else {
                ropes.set(k, rolled(rope, 1));
            }
        }

        int draw(int n) {
            seed = (seed * 1103515245L + 12345L) % (1L << 31);
            return (int) (seed / 65536 % n);
        }

        int undo() {
            if (before.isEmpty()) {
                return NOT;
            }
            long stays = seed;
            restore(before.removeLast());
            seed = stays;
            return before.size();
        }

        int toShake(int k, int what) {
            if (unknown(k)) {
                return UNKNOWN;
            }
            if (what < 0 || what > 3) {
                return OUTSIDE;
            }
            Search search = new Search(ropes.get(k), true);
            return new int[] {search.fewest, search.moves, search.sets, search.first}[what];
        }

        int within(int k, int c) {
            return unknown(k, c) ? UNKNOWN : inside(ropes.get(k), c);
        }

        int same(int k, int q) {
            if (unknown(k) || unknown(q) || k == q) {
                return UNKNOWN;
            }
            List<Integer> goal = row(ropes.get(q));
            List<Pass> rope = ropes.get(k);
            List<List<Pass>> forms = List.of(rope, reversed(rope), switched(rope, 255), switched(reversed(rope), 255));
            int set = 0;
            for (int form = 0; form < 4; form++) {
                boolean hit = false;
                for (int i = 0; i <= rope.size(); i++) {
                    hit |= row(rolled(forms.get(form), i)).equals(goal);
                }
                set += hit ? 1 << form : 0;
            }
            return set;
        }

        int tells(int k, int q) {
            if (unknown(k) || unknown(q) || k == q) {
                return UNKNOWN;
            }
            List<Pass> a = ropes.get(k);
            List<Pass> b = ropes.get(q);
            return (ways(a, 3, null) != ways(b, 3, null) ? 1 : 0)
                + (ways(a, 5, null) != ways(b, 5, null) ? 2 : 0)
                + (new Search(a, false).fewest != new Search(b, false).fewest ? 4 : 0);
        }

        int words(int k, int i) {
            if (unknown(k)) {
                return UNKNOWN;
            }
            List<Pass> rope = ropes.get(k);
            List<Integer> best = row(rope);
            for (int j = 1; j < rope.size(); j++) {
                List<Integer> next = row(rolled(rope, j));
                best = Arrays.compare(array(next), array(best)) < 0 ? next : best;
            }
            return i < 0 || i >= best.size() ? NONE : best.get(i);
        }

        int colour(int k, int part) {
            if (unknown(k)) {
                return UNKNOWN;
            }
            List<int[]> found = new ArrayList<>();
            ways(ropes.get(k), 3, found);
            int parts = Math.max(1, ropes.get(k).size() / 2);
            if (part < 0 || part >= parts) {
                return NONE;
            }
            int[] best = null;
            for (int[] way : found) {
                boolean plain = true;
                for (int colour : way) {
                    plain &= colour == way[0];
                }
                if (!plain && (best == null || Arrays.compare(way, best) < 0)) {
                    best = way;
                }
            }
            return best == null ? NONE : best[part];
        }

        int whole(int n, int q) {
            if (n < 0 || n > 60 || q < 0 || q > 100) {
                return OUTSIDE;
            }
            long odds = 1000000000L;
            for (int i = 0; i < n; i++) {
                odds = odds * q / 100;
            }
            return (int) odds;
        }

        int write(int k, int crossings) {
            if (unknown(k)) {
                return UNKNOWN;
            }
            if (crossings < 0 || crossings > 8) {
                return OUTSIDE;
            }
            if (book.size() == 15) {
                return FULL;
            }
            book.add(new int[] {k, crossings});
            return book.size();
        }

        int tear() {
            int had = book.size();
            book.clear();
            return had;
        }

        int judge() {
            for (int i = 0; i < book.size(); i++) {
                if (ropes.get(book.get(i)[0]).size() != 2 * book.get(i)[1]) {
                    return i;
                }
            }
            return NONE;
        }

        int seed(int v) {
            if (v < 0) {
                return OUTSIDE;
            }
            int was = (int) seed;
            seed = v;
            return was;
        }

        int keep(int i) {
            if (i != 0 && i != 1) {
                return UNKNOWN;
            }
            images[i] = copy();
            before.clear();
            return 1;
        }

        int goBack(int i) {
            if (i != 0 && i != 1) {
                return UNKNOWN;
            }
            if (images[i] == null) {
                return NOT;
            }
            restore(images[i]);
            images[i] = copy();
            before.clear();
            return 1;
        }

        void remember() {
            before.addLast(copy());
            if (before.size() > 16) {
                before.removeFirst();
            }
        }

        State copy() {
            State state = new State();
            state.grains = grains;
            state.seed = seed;
            for (List<Pass> rope : ropes) {
                state.ropes.add(copyOf(rope));
            }
            return state;
        }

        void restore(State state) {
            grains = state.grains;
            seed = state.seed;
            ropes = state.ropes;
        }
    }

    private static List<Pass> copyOf(List<Pass> rope) {
        Map<Crossing, Crossing> fresh = new HashMap<>();
        List<Pass> copy = new ArrayList<>();
        for (Pass pass : rope) {
            Crossing of = fresh.computeIfAbsent(pass.of(), old -> new Crossing());
            of.salted = pass.of().salted;
            copy.add(new Pass(of, pass.over()));
        }
        return copy;
    }

    private static List<Crossing> crossings(List<Pass> rope) {
        List<Crossing> all = new ArrayList<>();
        for (Pass pass : rope) {
            if (!all.contains(pass.of())) {
                all.add(pass.of());
            }
        }
        return all;
    }

    private static List<Integer> row(List<Pass> rope) {
        List<Crossing> all = crossings(rope);
        List<Integer> row = new ArrayList<>();
        for (Pass pass : rope) {
            row.add(2 * all.indexOf(pass.of()) + (pass.over() ? 1 : 0));
        }
        return row;
    }

    private static int[] array(List<Integer> row) {
        return row.stream().mapToInt(Integer::intValue).toArray();
    }

    private static List<Pass> rolled(List<Pass> rope, int times) {
        List<Pass> then = new ArrayList<>(rope);
        Collections.rotate(then, -times);
        return then;
    }

    private static List<Pass> reversed(List<Pass> rope) {
        List<Pass> then = new ArrayList<>(rope);
        Collections.reverse(then);
        return then;
    }

    private static List<Pass> switched(List<Pass> rope, int set) {
        List<Crossing> all = crossings(rope);
        List<Pass> then = new ArrayList<>();
        for (Pass pass : rope) {
            boolean is = (set >> all.indexOf(pass.of()) & 1) == 1;
            then.add(new Pass(pass.of(), pass.over() != is));
        }
        return then;
    }

    private static List<Pass> without(List<Pass> rope, Crossing one, Crossing other) {
        List<Pass> then = new ArrayList<>(rope);
        then.removeIf(pass -> pass.of() == one || pass.of() == other);
        return then;
    }

    private static boolean besides(List<Pass> rope, Pass one, Pass other) {
        int apart = Math.abs(rope.indexOf(one) - rope.indexOf(other));
        return apart == 1 || apart == rope.size() - 1;
    }

    private static boolean isMove(List<Pass> rope, Crossing one, Crossing other, boolean minded) {
        if (minded && (one.salted || other.salted)) {
            return false;
        }
        if (one == other) {
            return besides(rope, new Pass(one, true), new Pass(one, false));
        }
        return besides(rope, new Pass(one, true), new Pass(other, true))
            && besides(rope, new Pass(one, false), new Pass(other, false));
    }

    /** By the numbers that the crossings have in the row named. */
    private static List<Integer> moveNumbers(List<Pass> rope, List<Crossing> named, boolean minded) {
        Set<Integer> numbers = new TreeSet<>();
        for (Crossing one : crossings(rope)) {
            for (Crossing other : crossings(rope)) {
                int c = named.indexOf(one);
                int d = named.indexOf(other);
                if (c <= d && isMove(rope, one, other, minded)) {
                    numbers.add(10 * c + d);
                }
            }
        }
        return new ArrayList<>(numbers);
    }

    private static int inside(List<Pass> rope, int c) {
        List<Integer> row = row(rope);
        int from = Math.min(row.indexOf(2 * c), row.indexOf(2 * c + 1));
        int to = Math.max(row.indexOf(2 * c), row.indexOf(2 * c + 1));
        int set = 0;
        for (int d = 0; d < row.size() / 2; d++) {
            boolean over = row.indexOf(2 * d + 1) > from && row.indexOf(2 * d + 1) < to;
            boolean under = row.indexOf(2 * d) > from && row.indexOf(2 * d) < to;
            set += over != under ? 1 << d : 0;
        }
        return set;
    }

    private static int switches(List<Pass> rope) {
        int best = NONE;
        for (int set = 0; set < 1 << rope.size() / 2; set++) {
            boolean fewer = best == NONE || Integer.bitCount(set) < Integer.bitCount(best);
            if (fewer && new Search(switched(rope, set), false).fewest == 0) {
                best = set;
            }
        }
        return best;
    }

    /** Every colouring is tried, but only as far as its first parts agree. */
    private static int ways(List<Pass> rope, int m, List<int[]> found) {
        int parts = Math.max(1, rope.size() / 2);
        Map<Crossing, int[]> at = new LinkedHashMap<>();
        int unders = 0;
        for (Pass pass : rope) {
            int[] places = at.computeIfAbsent(pass.of(), c -> new int[3]);
            if (pass.over()) {
                places[0] = Math.floorMod(unders - 1, parts);
            } else {
                places[1] = Math.floorMod(unders - 1, parts);
                places[2] = unders;
                unders++;
            }
        }
        return paint(new int[parts], 0, new ArrayList<>(at.values()), m, found);
    }

    private static int paint(int[] colours, int part, List<int[]> at, int m, List<int[]> found) {
        for (int[] places : at) {
            boolean painted = Math.max(places[0], Math.max(places[1], places[2])) < part;
            if (painted && (2 * colours[places[0]]) % m != (colours[places[1]] + colours[places[2]]) % m) {
                return 0;
            }
        }
        if (part == colours.length) {
            if (found != null) {
                found.add(colours.clone());
            }
            return 1;
        }
        int sum = 0;
        for (int colour = 0; colour < m; colour++) {
            colours[part] = colour;
            sum += paint(colours, part + 1, at, m, found);
        }
        return sum;
    }

    /** Level by level, all that can be left. */
    private static final class Search {
        int fewest;
        int moves;
        int sets;
        int first = NONE;

        Search(List<Pass> rope, boolean minded) {
            List<Crossing> named = crossings(rope);
            Map<Set<Crossing>, TreeSet<Integer>> level = new HashMap<>();
            level.put(new HashSet<>(named), new TreeSet<>(Set.of(NONE)));
            Set<Set<Crossing>> seen = new HashSet<>(level.keySet());
            fewest = named.size() + 1;
            for (int many = 0; !level.isEmpty(); many++) {
                Map<Set<Crossing>, TreeSet<Integer>> next = new HashMap<>();
                for (Map.Entry<Set<Crossing>, TreeSet<Integer>> entry : level.entrySet()) {
                    weigh(entry.getKey().size(), many, entry.getValue().first());
                    List<Pass> left = new ArrayList<>(rope);
                    left.removeIf(pass -> !entry.getKey().contains(pass.of()));
                    for (int move : moveNumbers(left, named, minded)) {
                        Set<Crossing> to = new HashSet<>(entry.getKey());
                        to.remove(named.get(move / 10));
                        to.remove(named.get(move % 10));
                        if (!seen.contains(to)) {
                            TreeSet<Integer> firsts = next.computeIfAbsent(to, s -> new TreeSet<>());
                            firsts.addAll(many == 0 ? Set.of(move) : entry.getValue());
                        }
                    }
                }
                seen.addAll(next.keySet());
                level = next;
            }
            sets = seen.size();
        }

        void weigh(int crossings, int many, int firstMove) {
            if (crossings < fewest) {
                fewest = crossings;
                moves = many;
                first = firstMove;
            } else if (crossings == fewest && many == moves) {
                first = Math.min(first, firstMove);
            }
        }
    }

    /** The text by clauses: of all faults that are seen the first one stands. */
    private static final class Parser {
        final String text;
        final List<List<Pass>> ropes = new ArrayList<>();
        int grains;
        int fault;
        int at;

        Parser(String told) {
            text = told;
        }

        void parse() {
            skip();
            if (at == text.length()) {
                return;
            }
            if (text.charAt(at) != 'u') {
                fault = 1;
                return;
            }
            at++;
            skip();
            if (!number() || !end()) {
                return;
            }
            skip();
            while (at < text.length()) {
                if (!clause()) {
                    return;
                }
                skip();
            }
        }

        void skip() {
            while (at < text.length() && text.charAt(at) == ' ') {
                at++;
            }
        }

        boolean number() {
            int to = at;
            while (to < text.length() && "0123456789".indexOf(text.charAt(to)) >= 0) {
                to++;
            }
            if (to == at) {
                fault = 1;
                return false;
            }
            if (to - at > 3 || Integer.parseInt(text.substring(at, to)) > 99) {
                fault = 2;
                return false;
            }
            grains = Integer.parseInt(text.substring(at, to));
            at = to;
            return true;
        }

        boolean end() {
            skip();
            if (at >= text.length() || text.charAt(at) != ';') {
                fault = 1;
                return false;
            }
            at++;
            return true;
        }

        boolean clause() {
            char word = text.charAt(at);
            if (word == 'u' || word == 'k' && ropes.size() == 5) {
                fault = 3;
                return false;
            }
            if (word != 'k') {
                fault = 1;
                return false;
            }
            at++;
            Map<Character, Crossing> names = new HashMap<>();
            Set<Character> came = new HashSet<>();
            List<Pass> rope = new ArrayList<>();
            for (skip(); at < text.length() && Character.toString(text.charAt(at)).matches("[A-Za-z]"); skip()) {
                char letter = text.charAt(at);
                char name = Character.toLowerCase(letter);
                fault = !came.add(letter) ? 4 : !names.containsKey(name) && names.size() == 8 ? 3 : 0;
                if (fault != 0) {
                    return false;
                }
                rope.add(new Pass(names.computeIfAbsent(name, n -> new Crossing()), letter != name));
                at++;
            }
            if (at < text.length() && text.charAt(at) == ';' && rope.size() != 2 * names.size()) {
                fault = 5;
                return false;
            }
            ropes.add(rope);
            return end();
        }
    }
}
