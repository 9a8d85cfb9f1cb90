import java.lang.reflect.Array;
import java.lang.reflect.Field;
import java.lang.reflect.Method;
import java.lang.reflect.Modifier;
import java.nio.charset.StandardCharsets;
import java.nio.file.Files;
import java.nio.file.Path;
import java.util.ArrayDeque;
import java.util.Arrays;
import java.util.Deque;
import java.util.IdentityHashMap;
import java.util.Map;
import java.util.Set;
import java.util.TreeSet;
import java.util.regex.Matcher;
import java.util.regex.Pattern;

/** The face of the document, and the rules of LANGUAGE.md that can be seen from outside. Run in the project's folder. */
public final class LanguageRules {
    private static final String FACE = """
        int feed(int)
        int tray()
        int fault()
        int told(int)
        int pretzel(int, int)
        int pass(int, int)
        int moves(int, int)
        int shake(int, int, int)
        int curl(int, int, boolean)
        int turn(int, int)
        int reverse(int)
        int mirror(int)
        int roll(int)
        int join(int, int)
        int salt(int, int, boolean)
        int drift(int)
        int undo()
        int toShake(int, int)
        int within(int, int)
        int same(int, int)
        int tells(int, int)
        int words(int, int)
        int colour(int, int)
        int whole(int, int)
        int write(int, int)
        int tear()
        int judge()
        int seed(int)
        int keep(int)
        int goBack(int)
        """;
    private static int wrong = 0;

    public static void main(String[] args) throws Exception {
        face();
        for (Class<?> inside : PretzelProof.class.getDeclaredClasses()) {
            classInside(inside);
        }
        room(new PretzelProof());
        sourceWords(Files.readString(Path.of("src/main/java/PretzelProof.java"), StandardCharsets.ISO_8859_1));
        System.out.println(wrong == 0 ? "the rules are kept" : wrong + " rules are broken");
        if (wrong != 0) {
            System.exit(1);
        }
    }

    private static void rule(boolean kept, String what) {
        if (!kept) {
            wrong++;
            System.out.println("broken: " + what);
        }
    }

    private static Set<String> publicNames() {
        Set<String> names = new TreeSet<>();
        for (String line : FACE.strip().split("\n")) {
            names.add(line.strip().replaceAll("^int |\\(.*$", ""));
        }
        return names;
    }

    private static void face() {
        Set<String> want = new TreeSet<>(Arrays.asList(FACE.strip().split("\\s*\n\\s*")));
        Set<String> got = new TreeSet<>();
        for (Method method : PretzelProof.class.getDeclaredMethods()) {
            if (Modifier.isPrivate(method.getModifiers())) {
                rule(!publicNames().contains(method.getName()), "1: a private method is called " + method.getName());
            } else {
                rule(Modifier.isPublic(method.getModifiers()) && !Modifier.isStatic(method.getModifiers()), "1: " + method);
                String types = Arrays.toString(method.getParameterTypes()).replaceAll("[\\[\\]]", "");
                got.add(method.getReturnType() + " " + method.getName() + "(" + types + ")");
            }
        }
        rule(got.equals(want), "1: the public methods are " + got);
        rule(PretzelProof.class.getModifiers() == (Modifier.PUBLIC | Modifier.FINAL), "1: public and final");
        rule(PretzelProof.class.getDeclaredConstructors().length == 1, "1: one constructor");
        Set<String> constants = new TreeSet<>();
        for (Field field : PretzelProof.class.getDeclaredFields()) {
            if (!Modifier.isPrivate(field.getModifiers())) {
                constants.add(Modifier.toString(field.getModifiers()) + " " + field.getType() + " " + field.getName());
            }
        }
        rule(constants.size() == 5, "1: five constants, not " + constants);
        fields(PretzelProof.class);
    }

    private static void classInside(Class<?> inside) {
        rule(Modifier.isStatic(inside.getModifiers()), "2: static: " + inside);
        rule(!Modifier.isPublic(inside.getModifiers()), "1: not public: " + inside);
        for (Method method : inside.getDeclaredMethods()) {
            rule(!publicNames().contains(method.getName()), "1: " + inside + " has a method " + method.getName());
            rule(method.getParameterCount() <= 7, "11: seven parameters: " + method);
        }
        fields(inside);
    }

    private static void fields(Class<?> of) {
        int own = 0;
        for (Field field : of.getDeclaredFields()) {
            boolean fixed = Modifier.isStatic(field.getModifiers());
            own += fixed ? 0 : 1;
            rule(!fixed || Modifier.isFinal(field.getModifiers()), "5: static and not final: " + field);
        }
        rule(own <= 20, "11: twenty fields: " + of);
        rule(PretzelProof.class.getDeclaredClasses().length <= 11, "11: twelve classes");
    }

    /** All calls of a run live in one room of 600,000 objects, 7.3 million fields and elements: a thousandth for one object. */
    private static void room(PretzelProof x) throws Exception {
        Map<Object, Boolean> seen = new IdentityHashMap<>();
        Deque<Object> open = new ArrayDeque<>(Set.of(x));
        int elements = 0;
        while (!open.isEmpty()) {
            Object one = open.remove();
            if (seen.put(one, true) == null) {
                elements += one.getClass().isArray() ? openRow(one, open) : openFields(one, open);
            }
        }
        rule(seen.size() <= 600, "12: a new object is made of " + seen.size() + " objects");
        rule(elements <= 7300, "12: a new object has " + elements + " fields and elements");
        String told = seen.size() + " objects with " + elements + " fields and";
        rule(Files.readString(Path.of("README.md")).contains(told), "README.md does not say '" + told + "'");
    }

    private static int openRow(Object row, Deque<Object> open) {
        for (int i = 0; i < Array.getLength(row) && !row.getClass().getComponentType().isPrimitive(); i++) {
            open.add(Array.get(row, i));
        }
        return Array.getLength(row);
    }

    private static int openFields(Object one, Deque<Object> open) throws IllegalAccessException {
        int own = 0;
        for (Field field : one.getClass().getDeclaredFields()) {
            if (!Modifier.isStatic(field.getModifiers())) {
                own++;
                field.setAccessible(true);
                if (!field.getType().isPrimitive()) {
                    open.add(field.get(one));
                }
            }
        }
        return own;
    }

    private static void sourceWords(String source) {
        String code = source.replaceAll("(?s)/\\*.*?\\*/", "").replaceAll("//[^\n]*", "");
        Matcher word = Pattern.compile("\\b(throw|throws|try|catch|finally|synchronized|assert|package|native|\\w+Exact"
            + "|System\\.(?!arraycopy)\\w+|Random|Thread|Object|HashMap|hashCode|equals|toString)\\b|->|::").matcher(code);
        while (word.find()) {
            rule(false, "3, 4, 6, 13: " + word.group());
        }
        Matcher imported = Pattern.compile("import ([^;]*);").matcher(code);
        while (imported.find()) {
            rule(imported.group(1).equals("java.util.Arrays"), "4: import " + imported.group(1));
        }
        methodLengths(source.split("\n"));
        rule(source.chars().allMatch(sign -> sign < 128), "3: a sign above 127");
    }

    /** A method begins and ends at the same depth, as the file is laid out. */
    private static void methodLengths(String[] lines) {
        for (int from = 0; from < lines.length; from++) {
            Matcher head = Pattern.compile("^( {4}| {8})[\\w].*\\(.*\\) \\{$").matcher(lines[from]);
            if (head.matches()) {
                int to = from;
                while (to < lines.length && !lines[to].equals(head.group(1) + "}")) {
                    to++;
                }
                rule(to - from < 60, "11: sixty lines: " + lines[from].strip());
            }
        }
    }
}
