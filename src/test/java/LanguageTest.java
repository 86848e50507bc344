import java.io.IOException;
import java.lang.reflect.Constructor;
import java.lang.reflect.Field;
import java.lang.reflect.Method;
import java.lang.reflect.Modifier;
import java.nio.file.Files;
import java.nio.file.Path;
import java.util.Arrays;
import java.util.List;
import java.util.Map;
import java.util.Set;
import java.util.TreeMap;
import java.util.TreeSet;
import java.util.regex.Matcher;
import java.util.regex.Pattern;

/** The rules of LANGUAGE.md that a test can see: the face, and words that the source must not hold. */
public final class LanguageTest {
    private static final Due due = new Due("LanguageTest");

    public static void main(String[] arguments) throws IOException {
        hasTheFace();
        hasTheConstants();
        hasNoOtherMember();
        hasFewAndPlainClasses();
        hasNoForbiddenWord();
        makesRowsInConstructorsAlone();
        hasShortMethods();
        callsAreNotDeep();
        due.close();
    }

    private static void hasTheFace() {
        Set<String> wanted = new TreeSet<>(List.of(
            "int takeStrip()", "int setLength(int,int)", "int setUp(int,boolean)", "int set(int,int)",
            "int layOver()", "int bend(int)", "int flatten(int)", "int follow(int)",
            "int type(char)", "int clearText()", "int undo()", "int keep()", "int restore()",
            "int ofBend(int,int)", "int lengthOf(int)", "int end(int,int,boolean)", "int strikers(int)",
            "int order(int)", "int orders()", "int mustWait(int,int)", "int count(int)"));
        Set<String> found = new TreeSet<>();
        for (Method method : BendOrders.class.getDeclaredMethods()) {
            if (Modifier.isPublic(method.getModifiers())) {
                due.holds("no static face: " + method, !Modifier.isStatic(method.getModifiers()));
                StringBuilder told = new StringBuilder(method.getReturnType() + " " + method.getName() + "(");
                for (Class<?> parameter : method.getParameterTypes()) {
                    told.append(told.charAt(told.length() - 1) == '(' ? "" : ",").append(parameter);
                }
                found.add(told.append(")").toString());
            }
        }
        due.holds("the public methods are " + wanted + ": " + found, wanted.equals(found));
        Constructor<?>[] constructors = BendOrders.class.getDeclaredConstructors();
        due.is("the constructors", constructors.length, 1);
        due.is("their parameters", constructors[0].getParameterCount(), 0);
        due.holds("the constructor is public", Modifier.isPublic(constructors[0].getModifiers()));
        int kind = BendOrders.class.getModifiers();
        due.holds("the class is public and final", Modifier.isPublic(kind) && Modifier.isFinal(kind));
    }

    private static void hasTheConstants() {
        due.is("UNKNOWN", BendOrders.UNKNOWN, -1001);
        due.is("BAD_VALUE", BendOrders.BAD_VALUE, -1002);
        due.is("FULL", BendOrders.FULL, -1003);
        due.is("NOT_POSSIBLE", BendOrders.NOT_POSSIBLE, -1004);
        due.is("NONE", BendOrders.NONE, -1005);
        int constants = 0;
        for (Field field : BendOrders.class.getDeclaredFields()) {
            constants += Modifier.isPublic(field.getModifiers()) ? 1 : 0;
        }
        due.is("the public constants", constants, 5);
    }

    private static void hasNoOtherMember() {
        Set<String> publicNames = new TreeSet<>();
        for (Method method : BendOrders.class.getDeclaredMethods()) {
            if (Modifier.isPublic(method.getModifiers())) {
                publicNames.add(method.getName());
            }
        }
        for (Method method : BendOrders.class.getDeclaredMethods()) {
            int kind = method.getModifiers();
            due.holds("public or private: " + method, Modifier.isPublic(kind) || Modifier.isPrivate(kind));
            due.holds("a name of its own: " + method, Modifier.isPublic(kind) || !publicNames.contains(method.getName()));
            due.holds("at most 7 parameters: " + method, method.getParameterCount() <= 7);
        }
        for (Class<?> inside : BendOrders.class.getDeclaredClasses()) {
            for (Method method : inside.getDeclaredMethods()) {
                due.holds("a name of its own: " + method, !publicNames.contains(method.getName()));
                due.holds("at most 7 parameters: " + method, method.getParameterCount() <= 7);
            }
        }
        for (Field field : BendOrders.class.getDeclaredFields()) {
            int kind = field.getModifiers();
            due.holds("public or private: " + field, Modifier.isPublic(kind) || Modifier.isPrivate(kind));
        }
    }

    private static void hasFewAndPlainClasses() {
        Class<?>[] inside = BendOrders.class.getDeclaredClasses();
        due.holds("at most 12 classes", inside.length < 12);
        for (Class<?> each : inside) {
            due.holds("static: " + each, Modifier.isStatic(each.getModifiers()));
            due.holds("private or package-visible: " + each,
                !Modifier.isPublic(each.getModifiers()) && !Modifier.isProtected(each.getModifiers()));
            fewFields(each);
        }
        fewFields(BendOrders.class);
    }

    private static void fewFields(Class<?> each) {
        int fields = 0;
        for (Field field : each.getDeclaredFields()) {
            int kind = field.getModifiers();
            fields += Modifier.isStatic(kind) ? 0 : 1;
            due.holds("no static state: " + field, !Modifier.isStatic(kind) || Modifier.isFinal(kind));
        }
        due.holds("at most 20 fields: " + each, fields <= 20);
    }

    private static String source() throws IOException {
        Path file = Path.of(System.getProperty("project.root", "."), "src/main/java/BendOrders.java");
        String text = Files.readString(file);
        return text.replaceAll("(?s)/\\*.*?\\*/", "").replaceAll("//[^\n]*", "");
    }

    private static void hasNoForbiddenWord() throws IOException {
        String source = source();
        for (String word : List.of("throw", "throws", "try", "catch", "finally", "synchronized", "assert", "import",
            "package", "protected", "volatile", "transient", "native", "goto", "var", "yield", "Object", "Exception",
            "Thread", "Random", "System.nanoTime", "System.currentTimeMillis", "System.getenv", "System.out",
            "hashCode", "toString", "this::", "HashMap", "Optional", "Exact")) {
            due.holds("no '" + word + "'", !Pattern.compile("\\b" + Pattern.quote(word) + "\\b").matcher(source).find());
        }
        due.holds("no lambda", !source.contains("->"));
        due.holds("no method reference", !source.contains("::"));
        due.holds("no division", !Pattern.compile("/(?! 2\\b)").matcher(source).find());
        due.holds("no remainder but of 2", !Pattern.compile("%(?! 2\\b)").matcher(source).find());
        due.holds("no static block", !Pattern.compile("static\\s*\\{").matcher(source).find());
        due.holds("no text", !source.contains("\""));
        due.holds("no loop without a bound", !Pattern.compile("while|for \\(;;").matcher(source).find());
        Matcher library = Pattern.compile("\\b(Math|Integer|Long|System|Arrays)\\.(\\w+)").matcher(source);
        List<String> allowed = Arrays.asList("Math.min", "Math.max", "Integer.bitCount", "System.arraycopy");
        while (library.find()) {
            due.holds("the library is " + allowed + ": " + library.group(), allowed.contains(library.group()));
        }
    }

    /** All calls of a run share one room, so calls make nothing. */
    private static void makesRowsInConstructorsAlone() throws IOException {
        String method = "";
        for (String line : source().split("\n")) {
            Matcher head = Pattern.compile("^ {4,8}(?:\\w+ )*([A-Za-z]+)\\([^)]*\\) \\{$").matcher(line);
            if (head.find()) {
                method = head.group(1);
            }
            if (Pattern.compile("\\bnew\\b").matcher(line).find()) {
                due.holds("made in a constructor: " + line.trim(), Character.isUpperCase(method.charAt(0)));
            }
        }
    }

    /** By names alone: methods of one name are taken as one, so that this counts rather too deep. */
    private static void callsAreNotDeep() throws IOException {
        Map<String, StringBuilder> bodies = new TreeMap<>();
        StringBuilder body = new StringBuilder();
        for (String line : source().split("\n")) {
            Matcher head = Pattern.compile("^ {4,8}(?:[\\w\\[\\]]+ )*(\\w+)\\([^)]*\\) \\{$").matcher(line);
            if (head.find()) {
                body = bodies.computeIfAbsent(head.group(1), unused -> new StringBuilder());
            } else {
                body.append(line).append('\n');
            }
        }
        due.holds("the methods are seen: " + bodies.keySet(), bodies.size() > 60);
        int deepest = 0;
        for (String name : bodies.keySet()) {
            int deep = deepness(name, bodies, 1);
            deepest = Math.max(deepest, deep);
            due.holds("at most 8 deep: " + name + " " + deep, deep <= 8);
        }
        System.out.println("the deepest calls: " + deepest);
    }

    private static int deepness(String name, Map<String, StringBuilder> bodies, int open) {
        due.holds("no recursion by way of " + name, open < 20);
        if (open >= 20 || !bodies.containsKey(name)) {
            return 1;
        }
        int deepest = 0;
        Matcher call = Pattern.compile("\\b(\\w+)\\(").matcher(bodies.get(name));
        while (call.find()) {
            if (!Set.of("if", "for", "switch", "while", "return").contains(call.group(1))) {
                deepest = Math.max(deepest, deepness(call.group(1), bodies, open + 1));
            }
        }
        return deepest + 1;
    }

    private static void hasShortMethods() throws IOException {
        String[] lines = source().split("\n");
        int start = -1;
        for (int i = 0; i < lines.length; i++) {
            if (lines[i].matches("^ {4,8}(?:\\w+ )*[A-Za-z]+\\([^)]*\\) \\{$")) {
                start = i;
            } else if (lines[i].matches("^ {4,8}\\}$") && start >= 0) {
                due.holds("short: " + lines[start].trim(), i - start <= 60);
                start = -1;
            }
        }
    }
}
