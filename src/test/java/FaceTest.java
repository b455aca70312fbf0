import java.io.IOException;
import java.lang.reflect.Constructor;
import java.lang.reflect.Field;
import java.lang.reflect.Member;
import java.lang.reflect.Method;
import java.lang.reflect.Modifier;
import java.nio.file.Files;
import java.nio.file.Path;
import java.util.Arrays;
import java.util.Set;
import java.util.TreeSet;
import java.util.stream.Collectors;

/** The members of the class are those of the document, and the file keeps to rules that can be seen in its text. */
public final class FaceTest {
    private static final String STATE = " IllegalStateException";
    private static final String ARGUMENT = " IllegalArgumentException";
    private static final String BOUNDS = " IndexOutOfBoundsException";
    private static final String[] FACE = {
        "int word(int)", "int again(int,int)" + ARGUMENT, "int clear()", "long wordAt(int)", "int load()", "int faultAt()",
        "int decoded(int,int)" + STATE + BOUNDS + ARGUMENT, "void set(int,int)" + STATE + ARGUMENT,
        "int register(int)" + STATE + ARGUMENT, "void poke(int,int)" + STATE, "int peek(int)" + STATE,
        "int run(int)" + STATE + ARGUMENT, "int order(int)" + STATE + ARGUMENT, "int window(int)" + ARGUMENT,
        "int state(int)" + STATE + ARGUMENT, "long leak(int)", "int forget()" + STATE, "int check()" + STATE,
        "boolean reaches(int,int)" + STATE + BOUNDS, "int mark(int)" + STATE + BOUNDS, "int cut()" + STATE,
        "int rewrite()" + STATE, "int home(int)" + BOUNDS};
    private static final String[] NOT_ALLOWED = {"->", "::", "finally", "synchronized", "assert", "static {", "import static",
        "package ", "Exact(", "double", "float", "System.out", "System.nano", "System.current", "Random", "Thread", "getMessage"};

    public static void main(String[] args) throws IOException {
        Class<?> face = GuessFences.class;
        Due.is("public and final", face.getModifiers(), Modifier.PUBLIC | Modifier.FINAL);
        Set<String> names = publicMethods(face);
        members(face, names);
        for (Class<?> inside : face.getDeclaredClasses()) {
            Due.is(inside + " is static", Modifier.isStatic(inside.getModifiers()), true);
            Due.is(inside + " is not public", Modifier.isPublic(inside.getModifiers()), false);
            Due.is(inside + " is not protected", Modifier.isProtected(inside.getModifiers()), false);
            otherNames(inside, names);
            staticFields(inside);
        }
        Due.is("at most twelve classes", face.getDeclaredClasses().length < 12, true);
        text(Files.readString(Path.of("src/main/java/GuessFences.java")));
        Due.end("FaceTest");
    }

    private static Set<String> publicMethods(Class<?> face) {
        Set<String> due = new TreeSet<>(Arrays.asList(FACE));
        Set<String> names = new TreeSet<>();
        for (Method m : face.getDeclaredMethods()) {
            if (Modifier.isPublic(m.getModifiers())) {
                Due.is("public " + m + " is of the face", due.remove(signature(m)), true);
                names.add(m.getName());
            }
        }
        due.forEach(missing -> Due.is(missing + " is there", false, true));
        return names;
    }

    private static String signature(Method m) {
        String parameters = Arrays.stream(m.getParameterTypes()).map(Class::getSimpleName).collect(Collectors.joining(","));
        String thrown = Arrays.stream(m.getExceptionTypes()).map(e -> " " + e.getSimpleName()).collect(Collectors.joining());
        return m.getReturnType().getSimpleName() + " " + m.getName() + "(" + parameters + ")" + thrown;
    }

    private static void members(Class<?> face, Set<String> names) {
        Constructor<?>[] constructors = face.getDeclaredConstructors();
        Due.is("one constructor", constructors.length, 1);
        Due.is("it is public", constructors[0].getModifiers(), Modifier.PUBLIC);
        Due.is("it takes nothing", constructors[0].getParameterCount(), 0);
        for (Field field : face.getDeclaredFields()) {
            boolean none = field.getName().equals("NONE");
            Due.is(field + " is as visible as it may be", visibility(field), none ? Modifier.PUBLIC : Modifier.PRIVATE);
        }
        for (Method m : face.getDeclaredMethods()) {
            int due = names.contains(m.getName()) ? Modifier.PUBLIC : Modifier.PRIVATE;
            Due.is(m + " is as visible as it may be", visibility(m), due);
        }
        staticFields(face);
    }

    private static int visibility(Member member) {
        return member.getModifiers() & (Modifier.PUBLIC | Modifier.PROTECTED | Modifier.PRIVATE);
    }

    private static void otherNames(Class<?> inside, Set<String> names) {
        for (Method m : inside.getDeclaredMethods()) {
            Due.is(m + " has a name of its own", names.contains(m.getName()), false);
            Due.is(m + " has at most seven parameters", m.getParameterCount() <= 7, true);
        }
    }

    private static void staticFields(Class<?> where) {
        int own = 0;
        for (Field field : where.getDeclaredFields()) {
            boolean fixed = Modifier.isStatic(field.getModifiers());
            Due.is(field + " is final if static", fixed && !Modifier.isFinal(field.getModifiers()), false);
            own += fixed ? 0 : 1;
        }
        Due.is(where + " has at most twenty fields", own <= 20, true);
    }

    private static void text(String source) {
        for (String word : NOT_ALLOWED) {
            Due.is("the text has " + word, source.contains(word), false);
        }
        for (String line : source.split("\n")) {
            boolean other = line.startsWith("import ") && !line.equals("import java.util.Arrays;");
            Due.is("the line '" + line + "' is another import", other, false);
        }
    }
}
