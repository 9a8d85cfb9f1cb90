import java.lang.reflect.InvocationTargetException;
import java.lang.reflect.Method;
import java.nio.file.Files;
import java.nio.file.Path;
import java.util.regex.Matcher;
import java.util.regex.Pattern;

/** The example of README.md, row by row: each call answers the number behind it. Run in the project's folder. */
public final class ReadmeExample extends Checks {
    private static final Pattern TEXT = Pattern.compile("\"([^\"]*)\"\\.toCharArray");
    private static final Pattern ROW = Pattern.compile("(?m)^x\\.(\\w+)\\(([^)]*)\\); +// (-?\\d+):? ");

    public static void main(String[] args) throws Exception {
        String readme = Files.readString(Path.of("README.md"));
        at("README.md, 'How to use it'");
        Matcher text = TEXT.matcher(readme);
        due("a text is told", text.find() ? 1 : 0, 1);
        PretzelProof x = new PretzelProof();
        feedAll(x, text.group(1));
        Matcher row = ROW.matcher(readme);
        int rows = 0;
        while (row.find()) {
            rows++;
            due("row " + rows + ", " + row.group(1) + "(" + row.group(2) + ")", answer(x, row.group(1), row.group(2)),
                Integer.parseInt(row.group(3)));
        }
        due("every row has its number", rows, readme.split("\nx\\.", -1).length - 1);
        end();
    }

    private static int answer(PretzelProof x, String name, String told) throws InvocationTargetException, IllegalAccessException {
        String[] numbers = told.isEmpty() ? new String[0] : told.split(", ");
        for (Method method : PretzelProof.class.getMethods()) {
            if (method.getName().equals(name)) {
                Object[] values = new Object[numbers.length];
                for (int i = 0; i < numbers.length; i++) {
                    boolean truth = method.getParameterTypes()[i] == boolean.class;
                    values[i] = truth ? (Object) Boolean.valueOf(numbers[i]) : (Object) Integer.valueOf(numbers[i]);
                }
                return (int) method.invoke(x, values);
            }
        }
        throw new IllegalStateException("there is no " + name);
    }
}
