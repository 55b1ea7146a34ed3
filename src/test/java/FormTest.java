import com.sun.management.ThreadMXBean;
import java.io.IOException;
import java.lang.management.ManagementFactory;
import java.lang.reflect.Constructor;
import java.lang.reflect.Field;
import java.lang.reflect.Method;
import java.lang.reflect.Modifier;
import java.nio.file.Files;
import java.nio.file.Path;
import java.util.ArrayList;
import java.util.Arrays;
import java.util.List;
import java.util.Set;
import java.util.TreeSet;
import java.util.regex.Matcher;
import java.util.regex.Pattern;

/** The face is the document's and no more; the file keeps to what can be seen of LANGUAGE.md from outside. */
public final class FormTest {
    private static final Path SOURCE = Path.of("src/main/java/TrimmedPeaks.java");
    private static final String FACE = "write1 wipe0 fault0 lay0 peak2 pins2 store1 wind1 put3 take2 pin3 pass1 undo0 "
        + "alike1 known1 behind2 goes2 hold1 tell1 add1 say2 forget0 which0 ask1 match1 storms5 century3 keep0 back0 "
        + "count1";
    private static final List<String> CONSTANTS = List.of("BAD", "NO", "FULL", "NONE");
    private static final List<String> IMPORTS = List.of("Arrays", "ArrayList", "List", "Iterator",
        "NoSuchElementException");
    private static final String EXCEPTIONS = "(IllegalState|IllegalArgument|IndexOutOfBounds|Arithmetic|"
        + "UnsupportedOperation|NoSuchElement|Runtime)Exception\\b";

    /** What a rule leaves out, by the rule's number. */
    private static final String[][] FORBIDDEN = {
        {"the file has no package", "\\bpackage\\b"},
        {"2: no lambda", "(?m)^(?!\\s*(case\\b|default\\b)).*->"},
        {"2: no method reference", "::"},
        {"4: no function whose name ends in Exact", "Exact\\b"},
        {"4: of System only arraycopy", "System\\.(?!arraycopy\\b)"},
        {"5: no static initialiser block", "\\bstatic\\s*\\{"},
        {"6: no finally, synchronized, assert", "\\b(finally|synchronized|assert)\\b"},
        {"6: throw of these alone", "\\bthrow\\s+(?!new " + EXCEPTIONS + ")"},
        {"6: catch of these alone", "\\bcatch\\s*\\(\\s*(?!" + EXCEPTIONS + ")"},
        {"13: no randomness, no thread", "\\b(Random|Thread|random)\\b"},
    };

    private static int wrong = 0;

    public static void main(String[] args) throws IOException, ReflectiveOperationException {
        face();
        constants();
        fieldsAndMethods();
        source();
        methodsAreShort();
        room();
        System.out.println(wrong == 0 ? "FormTest: all as due" : "FormTest: " + wrong + " wrong");
        if (wrong != 0) {
            System.exit(1);
        }
    }

    private static void due(boolean so, String what) {
        if (!so) {
            wrong++;
            System.out.println("not so: " + what);
        }
    }

    private static void face() {
        Set<String> due = new TreeSet<>(Arrays.asList(FACE.split(" ")));
        Set<String> open = new TreeSet<>();
        for (Method method : TrimmedPeaks.class.getDeclaredMethods()) {
            if (!Modifier.isPrivate(method.getModifiers()) && !method.isSynthetic()) {
                open.add(method.getName() + method.getParameterCount());
                due(Modifier.isPublic(method.getModifiers()), method + " is public");
                due(!Modifier.isStatic(method.getModifiers()), method + " is of an object");
                due(method.getReturnType() == int.class, method + " answers an int");
                due(Arrays.stream(method.getParameterTypes()).allMatch(int.class::equals), method + " takes ints");
            }
        }
        due(due.equals(open), "the face is " + due + ", it is " + open);
        due(Modifier.isFinal(TrimmedPeaks.class.getModifiers()), "the class is final");
        due(Modifier.isPublic(TrimmedPeaks.class.getModifiers()), "the class is public");
        Constructor<?>[] constructors = TrimmedPeaks.class.getConstructors();
        due(constructors.length == 1 && constructors[0].getParameterCount() == 0, "one public constructor");
    }

    private static void constants() throws ReflectiveOperationException {
        for (int i = 0; i < CONSTANTS.size(); i++) {
            due(TrimmedPeaks.class.getField(CONSTANTS.get(i)).getInt(null) == -1 - i, CONSTANTS.get(i));
        }
        for (Field field : TrimmedPeaks.class.getDeclaredFields()) {
            boolean isOfFace = CONSTANTS.contains(field.getName()) && Modifier.isFinal(field.getModifiers());
            due(isOfFace || Modifier.isPrivate(field.getModifiers()) || field.isSynthetic(), field + " is private");
        }
    }

    private static void fieldsAndMethods() {
        List<Class<?>> classes = new ArrayList<>(List.of(TrimmedPeaks.class));
        classes.addAll(Arrays.asList(TrimmedPeaks.class.getDeclaredClasses()));
        due(classes.size() <= 12, "at most twelve classes");
        Set<String> faceNames = new TreeSet<>(Arrays.asList(FACE.replaceAll("\\d", "").split(" ")));
        for (Class<?> one : classes) {
            int fields = 0;
            for (Field field : one.getDeclaredFields()) {
                boolean isStatic = Modifier.isStatic(field.getModifiers());
                fields += isStatic ? 0 : 1;
                due(!isStatic || Modifier.isFinal(field.getModifiers()), field + " is final");
            }
            due(fields <= 20, one + " has at most twenty fields");
            for (Method method : one.getDeclaredMethods()) {
                due(method.getParameterCount() <= 7, method + " takes at most seven");
                due(!Modifier.isPrivate(method.getModifiers()) || !faceNames.contains(method.getName()),
                    method + " has a name of its own");
            }
        }
    }

    private static String code() throws IOException {
        return Files.readString(SOURCE).replaceAll("(?s)/\\*.*?\\*/", "").replaceAll("//[^\n]*", "");
    }

    private static void source() throws IOException {
        String code = code();
        for (String[] rule : FORBIDDEN) {
            Matcher matcher = Pattern.compile(rule[1]).matcher(code);
            due(!matcher.find(), "rule " + rule[0]);
        }
        for (String line : code.split("\n")) {
            boolean isImport = line.startsWith("import ");
            due(!isImport || IMPORTS.stream().anyMatch(name -> line.equals("import java.util." + name + ";")), line);
            due(line.chars().allMatch(sign -> sign < 127), "plain signs: " + line);
        }
    }

    /** From a line that opens a method to the one that closes it, as far in as that. */
    private static void methodsAreShort() throws IOException {
        Matcher method = Pattern.compile("(?m)^( {4,8})(?:public|private)[^\n;=]*\\) \\{\n(?:.*\n)*?\\1\\}$")
            .matcher(code());
        int methods = 0;
        while (method.find()) {
            methods++;
            int lines = method.group().split("\n").length;
            due(lines <= 60, lines + " lines: " + method.group().split("\n")[0]);
        }
        due(methods >= 31, "methods are seen: " + methods);
    }

    /**
     * All calls of a run live in one room of 7.3 million fields and elements, some 58 million bytes: a hundred
     * objects, each with its 512 dearest calls, are to fit.
     */
    private static void room() {
        ThreadMXBean threads = (ThreadMXBean) ManagementFactory.getThreadMXBean();
        dearestCalls(); // the machine's own objects, made once
        long before = threads.getCurrentThreadAllocatedBytes();
        int sum = dearestCalls();
        long made = threads.getCurrentThreadAllocatedBytes() - before;
        due(made >= 0 && made <= 580_000, "made by 512 calls: " + made + " bytes, sum " + sum);
    }

    private static int dearestCalls() {
        TrimmedPeaks x = new TrimmedPeaks();
        int sum = 0;
        for (int i = 0; i < 30; i++) {
            sum += x.write(' ') + x.fault() + x.lay();
            sum += x.put(i % 5, 4, 20) + x.pin(i % 5, 4, 3) + x.take(i % 5, 4) + x.pass(20) + x.undo();
            sum += x.behind(20, 3) + x.goes(1, 0) + x.hold(20) + x.tell(1) + x.add(1) + x.ask(1);
            sum += x.match(-1) + x.storms(3, 0, 8, 5, 1);
        }
        for (int i = 0; i < 32; i++) {
            sum += x.century(i, 60, 1);
        }
        return sum;
    }
}
