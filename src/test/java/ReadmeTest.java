import java.io.IOException;
import java.lang.reflect.Method;
import java.nio.file.Files;
import java.nio.file.Path;
import java.util.ArrayList;
import java.util.List;
import java.util.Map;
import java.util.Set;
import java.util.TreeMap;
import java.util.regex.Matcher;
import java.util.regex.Pattern;

/** README.md against the class and the document: each public method, its errors in their order, and the example. */
public final class ReadmeTest {
    private static final Due due = new Due("ReadmeTest");
    private static final Path ROOT = Path.of(System.getProperty("project.root", "."));

    public static void main(String[] arguments) throws IOException, ReflectiveOperationException {
        String readme = Files.readString(ROOT.resolve("README.md"));
        String source = Files.readString(ROOT.resolve("src/main/java/BendOrders.java"));
        String document = Files.readString(ROOT.resolve("../shared/DOC.md"));
        namesEachMethod(readme, source);
        tellsTheErrorsOfTheDocument(readme, document);
        tellsEachConstant(readme);
        theExampleHolds(readme);
        due.close();
    }

    /** The rows of the tables of calls: what is called, and the cells behind it. */
    private static Map<String, String[]> calls(String readme) {
        Map<String, String[]> calls = new TreeMap<>();
        for (String line : readme.split("\n")) {
            Matcher row = Pattern.compile("^\\| `(\\w+\\([^`]*\\))` \\|(.*)\\|$").matcher(line);
            if (row.find()) {
                String[] cells = row.group(2).split("\\|", -1);
                due.is("the cells behind " + row.group(1), cells.length, 4);
                calls.put(row.group(1), cells);
            }
        }
        return calls;
    }

    private static void namesEachMethod(String readme, String source) {
        List<String> faces = new ArrayList<>();
        Matcher face = Pattern.compile("public int (\\w+\\([^)]*\\)) \\{").matcher(source);
        while (face.find()) {
            faces.add(face.group(1));
        }
        due.is("the public methods", faces.size(), 21);
        Set<String> named = calls(readme).keySet();
        for (String each : faces) {
            due.holds("README.md has a row for " + each, named.contains(each));
        }
        due.is("the rows", named.size(), faces.size());
    }

    private static void tellsTheErrorsOfTheDocument(String readme, String document) {
        Map<String, String> promises = new TreeMap<>();
        for (String promise : document.split("\n## ")) {
            Matcher head = Pattern.compile("^Promise \\d+: (\\w+)\n").matcher(promise);
            if (head.find()) {
                promises.put(head.group(1), promise);
            }
        }
        Map<String, String[]> calls = calls(readme);
        for (String call : calls.keySet()) {
            String name = call.substring(0, call.indexOf('('));
            String promise = promises.getOrDefault(name, "");
            String[] cells = calls.get(call);
            due.holds("the document promises " + name, !promise.isEmpty());
            if (cells.length == 4) {
                due.holds(name + " has the errors of the document", constants(cells[3]).equals(constants(promise)));
                boolean act = promise.contains("This is an act.") || promise.contains("This is one act.");
                due.holds(name + " is told as an act where it is one", cells[0].trim().equals(act ? "yes" : "no"));
            }
        }
    }

    private static List<String> constants(String text) {
        List<String> found = new ArrayList<>();
        Matcher constant = Pattern.compile("\\b(UNKNOWN|BAD_VALUE|FULL|NOT_POSSIBLE|NONE)\\b").matcher(text);
        while (constant.find()) {
            found.add(constant.group());
        }
        return found;
    }

    private static void tellsEachConstant(String readme) throws ReflectiveOperationException {
        for (String name : List.of("UNKNOWN", "BAD_VALUE", "FULL", "NOT_POSSIBLE", "NONE")) {
            int value = BendOrders.class.getField(name).getInt(null);
            due.holds("README.md tells " + name, readme.contains("| `" + name + "` | " + value + " |"));
        }
    }

    private static void theExampleHolds(String readme) throws ReflectiveOperationException {
        Pattern asked = Pattern.compile("^    press\\.(\\w+)\\((.*)\\); *// (-?\\d+|[A-Z_]+)");
        BendOrders press = new BendOrders();
        int answers = 0;
        for (String line : readme.split("\n")) {
            Matcher typed = Pattern.compile("for \\(char sign : \"(.*)\"\\.toCharArray").matcher(line);
            Matcher call = asked.matcher(line);
            if (typed.find()) {
                Due.type(press, typed.group(1));
            } else if (call.find()) {
                due.is(call.group(1) + "(" + call.group(2) + ")", answer(press, call.group(1), call.group(2)),
                    number(call.group(3)));
                answers++;
            }
        }
        due.holds("the example is read", answers >= 10);
    }

    private static int number(String told) throws ReflectiveOperationException {
        return Character.isLetter(told.charAt(0)) ? BendOrders.class.getField(told).getInt(null) : Integer.parseInt(told);
    }

    private static int answer(BendOrders press, String name, String told) throws ReflectiveOperationException {
        String[] texts = told.isEmpty() ? new String[0] : told.split(", ");
        for (Method method : BendOrders.class.getMethods()) {
            if (method.getName().equals(name)) {
                Object[] arguments = new Object[texts.length];
                for (int i = 0; i < texts.length; i++) {
                    boolean yesOrNo = method.getParameterTypes()[i] == boolean.class;
                    arguments[i] = yesOrNo ? (Object) Boolean.valueOf(texts[i]) : (Object) Integer.valueOf(texts[i]);
                }
                return (Integer) method.invoke(press, arguments);
            }
        }
        throw new IllegalStateException("no method: " + name);
    }
}
