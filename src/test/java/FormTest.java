import java.io.IOException;
import java.lang.reflect.Constructor;
import java.lang.reflect.Field;
import java.lang.reflect.Method;
import java.lang.reflect.Modifier;
import java.nio.file.Files;
import java.nio.file.Path;
import java.util.ArrayList;
import java.util.Arrays;
import java.util.List;
import java.util.Set;
import java.util.TreeSet;
import java.util.regex.Matcher;
import java.util.regex.Pattern;

/** The face is the document's and no more; the file keeps to what can be seen of LANGUAGE.md from outside. */
public final class FormTest {
    private static final Path SOURCE = Path.of("src/main/java/TrimmedPeaks.java");
    private static final String FACE = "write1 wipe0 fault0 lay0 peak2 pins2 store1 wind1 put3 take2 pin3 pass1 undo0 "
        + "alike1 known1 behind2 goes2 hold1 tell1 add1 say2 forget0 which0 ask1 match1 storms5 century3 keep0 back0 "
        + "count1";
    private static final String[] FORBIDDEN = {
        "\\bthrow\\b", "\\btry\\b", "\\bcatch\\b", "\\bfinally\\b", "\\bsynchronized\\b", "\\bassert\\b", "->", "::",
        "\\bRandom\\b", "System\\.(?!arraycopy)", "Exact\\b", "\\bpackage\\b", "static \\{", "\\bThread\\b",
        "\\bMath\\.random", "\\bvar\\b",
    };

    private static int wrong = 0;

    public static void main(String[] args) throws IOException, ReflectiveOperationException {
        face();
        constants();
        fieldsAndMethods();
        source();
        noObjectsByCalls();
        System.out.println(wrong == 0 ? "FormTest: all as due" : "FormTest: " + wrong + " wrong");
        if (wrong != 0) {
            System.exit(1);
        }
    }

    private static void due(boolean so, String what) {
        if (!so) {
            wrong++;
            System.out.println("not so: " + what);
        }
    }

    private static void face() {
        Set<String> due = new TreeSet<>(Arrays.asList(FACE.split(" ")));
        Set<String> open = new TreeSet<>();
        for (Method method : TrimmedPeaks.class.getDeclaredMethods()) {
            if (!Modifier.isPrivate(method.getModifiers())) {
                open.add(method.getName() + method.getParameterCount());
                due(Modifier.isPublic(method.getModifiers()), method + " is public");
                due(method.getReturnType() == int.class, method + " answers an int");
            }
        }
        due(due.equals(open), "the face is " + due + ", it is " + open);
        due(Modifier.isFinal(TrimmedPeaks.class.getModifiers()), "the class is final");
        Constructor<?>[] constructors = TrimmedPeaks.class.getDeclaredConstructors();
        due(constructors.length == 1 && constructors[0].getParameterCount() == 0, "one constructor");
    }

    private static void constants() throws ReflectiveOperationException {
        String[] names = {"BAD", "NO", "FULL", "NONE"};
        for (int i = 0; i < names.length; i++) {
            due(TrimmedPeaks.class.getField(names[i]).getInt(null) == -1 - i, names[i]);
        }
        due(TrimmedPeaks.class.getFields().length == names.length, "no other public constant");
    }

    private static void fieldsAndMethods() {
        List<Class<?>> classes = new ArrayList<>(List.of(TrimmedPeaks.class));
        classes.addAll(Arrays.asList(TrimmedPeaks.class.getDeclaredClasses()));
        due(classes.size() <= 12, "at most twelve classes");
        Set<String> faceNames = new TreeSet<>(Arrays.asList(FACE.replaceAll("\\d", "").split(" ")));
        for (Class<?> one : classes) {
            int fields = 0;
            for (Field field : one.getDeclaredFields()) {
                boolean isStatic = Modifier.isStatic(field.getModifiers());
                fields += isStatic ? 0 : 1;
                due(!isStatic || Modifier.isFinal(field.getModifiers()), field + " is final");
            }
            due(fields <= 20, one + " has at most twenty fields");
            for (Method method : one.getDeclaredMethods()) {
                due(method.getParameterCount() <= 7, method + " takes at most seven");
                due(!Modifier.isPrivate(method.getModifiers()) || !faceNames.contains(method.getName()),
                    method + " has a name of its own");
            }
        }
    }

    private static void source() throws IOException {
        String code = Files.readString(SOURCE).replaceAll("(?s)/\\*.*?\\*/", "").replaceAll("//[^\n]*", "");
        for (String word : FORBIDDEN) {
            Matcher matcher = Pattern.compile(word).matcher(code);
            due(!matcher.find(), "there is no " + word);
        }
        for (String line : code.split("\n")) {
            due(!line.startsWith("import") || line.equals("import java.util.Arrays;"), line);
            due(line.chars().allMatch(sign -> sign < 127), "plain signs: " + line);
        }
    }

    /** All calls of a run live in one room, so calls make nothing. */
    private static void noObjectsByCalls() throws IOException {
        String code = Files.readString(SOURCE);
        int made = 0;
        for (String line : code.split("\n")) {
            boolean isMade = line.contains("new ") && !line.trim().startsWith("*") && !line.trim().startsWith("/");
            boolean isField = line.trim().startsWith("private final") || line.trim().startsWith("this.cells");
            due(!isMade || isField, "made with the object: " + line);
            made += isMade ? 1 : 0;
        }
        due(made > 0, "rows are made");
    }
}
