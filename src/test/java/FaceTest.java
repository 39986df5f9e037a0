import java.io.IOException;
import java.lang.reflect.Constructor;
import java.lang.reflect.Executable;
import java.lang.reflect.Field;
import java.lang.reflect.Method;
import java.lang.reflect.Modifier;
import java.nio.file.Files;
import java.nio.file.Path;
import java.util.ArrayList;
import java.util.Arrays;
import java.util.List;
import java.util.Set;
import java.util.TreeSet;

/** What stands ahead of the promises: 'What it is', 'The public face'; and what of LANGUAGE.md the class itself shows. */
public final class FaceTest extends YardTest {
    private static final Class<?> YARD = CharcoalYard.class;
    private static final Path SOURCE = Path.of("src/main/java/CharcoalYard.java");
    // As the document writes them, without the names of what is given.
    private static final String[] METHODS = {
        "boolean clamp(int, int)", "int lay(int, int, int)", "int layRow(int, int, int, int, int)", "int hole(int, int)",
        "boolean light()", "boolean open(int, boolean)", "boolean cover(int, int, int)", "boolean watch(int)",
        "int hour(int, int)", "int again(int, int, int)", "int rake()", "int count(int)",
        "int cell(int, int, int) throws NoSuchElementException", "int all(int)", "int told(int, int)", "int breach(int, int)",
        "int sign(int)", "boolean end(int)", "int rule()", "int repeal()", "int wood(int, int, int)", "boolean years(int)",
        "int cut(int)", "int plan(int)", "int stand(int, int) throws NoSuchElementException"};
    private static final Set<String> STATIC_TYPES = Set.of("int", "long", "boolean", "char", "String", "int[]", "long[]", "char[]", "byte[]");
    private static final Set<String> IMPORTS = Set.of("java.util.Arrays", "java.util.NoSuchElementException", "java.util.ArrayList",
        "java.util.List", "java.util.Iterator");

    public static void main(String[] args) throws IOException, IllegalAccessException {
        publicAndFinal();
        constants();
        constructor();
        methods();
        noOtherMember();
        classesInside();
        staticFields();
        fewOfEach();
        imports();
        calls512();
        close();
    }

    private static List<Class<?>> allClasses() {
        List<Class<?>> classes = new ArrayList<>(List.of(YARD));
        for (int i = 0; i < classes.size(); i++) {
            classes.addAll(Arrays.asList(classes.get(i).getDeclaredClasses()));
        }
        return classes;
    }

    // ---- The public face

    private static void publicAndFinal() {
        sentence("The public face", "public final class CharcoalYard");
        due("public", Modifier.isPublic(YARD.getModifiers()), true);
        due("final", Modifier.isFinal(YARD.getModifiers()), true);
        due("without a package", YARD.getPackageName().isEmpty(), true);
        due("above it is Object alone", YARD.getSuperclass() == Object.class && YARD.getInterfaces().length == 0, true);
    }

    private static void constants() throws IllegalAccessException {
        sentence("The public face", "public static final int NONE = -1");
        due("NONE", CharcoalYard.NONE, -1);
        List<String> seen = new ArrayList<>();
        for (Field f : YARD.getDeclaredFields()) {
            if (!Modifier.isPrivate(f.getModifiers())) {
                seen.add(Modifier.toString(f.getModifiers()) + " " + f.getType() + " " + f.getName());
            }
        }
        due("it alone is seen: " + seen, seen.equals(List.of("public static final int NONE")), true);
    }

    private static void constructor() {
        sentence("The public face", "public CharcoalYard()");
        Constructor<?>[] all = YARD.getDeclaredConstructors();
        due("constructors", all.length, 1);
        due("public", Modifier.isPublic(all[0].getModifiers()), true);
        due("what it is given", all[0].getParameterCount(), 0);
        due("what it throws", all[0].getExceptionTypes().length, 0);
    }

    private static void methods() {
        sentence("The public face", "public int cell(int ring, int height, int what) throws NoSuchElementException");
        Set<String> seen = new TreeSet<>();
        for (Method m : YARD.getDeclaredMethods()) {
            if (Modifier.isPublic(m.getModifiers())) {
                due(m.getName() + " is public and nothing else", m.getModifiers(), Modifier.PUBLIC);
                seen.add(written(m));
            }
        }
        Set<String> want = new TreeSet<>(Arrays.asList(METHODS));
        due("methods", want.size(), 25);
        for (String method : want) {
            due("there is " + method, seen.contains(method), true);
        }
        for (String method : seen) {
            due("the document has " + method, want.contains(method), true);
        }
    }

    private static String written(Method m) {
        StringBuilder text = new StringBuilder(m.getReturnType() + " " + m.getName() + "(");
        for (Class<?> type : m.getParameterTypes()) {
            text.append(text.charAt(text.length() - 1) == '(' ? "" : ", ").append(type.getSimpleName());
        }
        text.append(")");
        for (Class<?> type : m.getExceptionTypes()) {
            text.append(" throws ").append(type.getSimpleName());
        }
        return text.toString();
    }

    // ---- LANGUAGE.md

    private static void noOtherMember() {
        sentence("LANGUAGE.md, rule 1", "no other public, protected or package-visible member");
        List<Executable> members = new ArrayList<>(Arrays.asList(YARD.getDeclaredMethods()));
        members.addAll(Arrays.asList(YARD.getDeclaredConstructors()));
        for (Executable m : members) {
            due(m.getName() + " is public or private", Modifier.isPublic(m.getModifiers()) || Modifier.isPrivate(m.getModifiers()), true);
        }
        sentence("LANGUAGE.md, rule 1", "No private method bears the name of a public one");
        Set<String> names = new TreeSet<>();
        for (String method : METHODS) {
            names.add(method.substring(method.indexOf(' ') + 1, method.indexOf('(')));
        }
        for (Class<?> c : allClasses()) {
            for (Method m : c.getDeclaredMethods()) {
                boolean isOfTheFace = c == YARD && Modifier.isPublic(m.getModifiers());
                due(c.getSimpleName() + "." + m.getName(), !isOfTheFace && names.contains(m.getName()), false);
            }
        }
    }

    private static void classesInside() {
        sentence("LANGUAGE.md, rule 1", "the classes inside it, which are private or package-visible and static");
        for (Class<?> c : allClasses()) {
            if (c != YARD) {
                int is = c.getModifiers();
                due(c.getSimpleName() + " is static", Modifier.isStatic(is), true);
                due(c.getSimpleName() + " is seen", Modifier.isPublic(is) || Modifier.isProtected(is), false);
            }
        }
    }

    private static void staticFields() {
        sentence("LANGUAGE.md, rule 5", "Static fields are final: constants of int, long, boolean, char or String");
        for (Class<?> c : allClasses()) {
            for (Field f : c.getDeclaredFields()) {
                if (Modifier.isStatic(f.getModifiers())) {
                    due(c.getSimpleName() + "." + f.getName() + " is final", Modifier.isFinal(f.getModifiers()), true);
                    due(c.getSimpleName() + "." + f.getName() + " may be of its type", STATIC_TYPES.contains(f.getType().getSimpleName()), true);
                }
            }
        }
    }

    private static void fewOfEach() {
        sentence("LANGUAGE.md, rule 11", "A method takes at most seven parameters");
        for (Class<?> c : allClasses()) {
            for (Method m : c.getDeclaredMethods()) {
                due(c.getSimpleName() + "." + m.getName(), m.getParameterCount() <= 7, true);
            }
        }
        sentence("LANGUAGE.md, rule 11", "the file has at most some twelve classes, and a class some twenty fields beside its constants");
        due("classes", allClasses().size() <= 12, true);
        for (Class<?> c : allClasses()) {
            long fields = Arrays.stream(c.getDeclaredFields()).filter(f -> !Modifier.isStatic(f.getModifiers())).count();
            due("fields of " + c.getSimpleName(), fields <= 20, true);
        }
    }

    private static void imports() throws IOException {
        sentence("LANGUAGE.md, rule 4", "The library: only what stands here");
        List<String> lines = Files.readAllLines(SOURCE);
        due("lines", lines.isEmpty(), false);
        for (String line : lines) {
            if (line.startsWith("import ")) {
                due(line, IMPORTS.contains(line.substring(7, line.length() - 1)), true);
            }
        }
        sentence("LANGUAGE.md, rule 6", "No finally, no try with resources");
        for (String word : List.of("finally", "try (", "synchronized", "assert")) {
            boolean isUsed = lines.stream().anyMatch(line -> !isComment(line) && line.contains(word));
            due("uses " + word, isUsed, false);
        }
    }

    private static boolean isComment(String line) {
        String text = line.strip();
        return text.startsWith("//") || text.startsWith("*") || text.startsWith("/*");
    }

    // ---- What it is

    private static void calls512() {
        sentence("What it is", "An object is used for at most 512 calls after it has been made");
        CharcoalYard y = litRow(2, 0);
        int calls = 6;
        for (; calls < 16; calls++) {
            y.hour(0, 0);
        }
        for (; calls < 509; calls++) {
            due("call " + (calls + 1) + ", again", y.again(0, calls % 2 == 0 ? 0 : 9, 0), calls % 2 == 0 ? 25 : 24);
        }
        due("call 510, count(5)", y.count(5), 10);
        due("call 511, a cell that is not", cell(y, 2, 0, 0), THROWN);
        due("call 512, rake()", y.rake(), 1);
    }
}
