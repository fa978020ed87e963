import java.io.IOException;
import java.lang.reflect.Constructor;
import java.lang.reflect.Field;
import java.lang.reflect.Method;
import java.lang.reflect.Modifier;
import java.nio.file.Files;
import java.nio.file.Path;
import java.util.Arrays;
import java.util.Set;
import java.util.TreeSet;

/** The public face is the document's and no more, and what LANGUAGE.md forbids by name is not there. */
public final class FaceTest {
    private static final String[] FACE = {
        "public void form(int,int,int,int) throws java.lang.IllegalArgumentException",
        "public int craft(int) throws java.lang.IllegalArgumentException",
        "public int told(int) throws java.lang.IllegalArgumentException",
        "public int data(int,long) throws java.lang.IllegalArgumentException",
        "public int send(int) throws java.lang.IllegalArgumentException,java.lang.IllegalStateException",
        "public int plain(int,long) throws java.lang.IllegalArgumentException",
        "public void skip(int) throws java.lang.IllegalArgumentException",
        "public int turn(int,long)",
        "public long line(int)",
        "public int receive(int) throws java.lang.IllegalArgumentException",
        "public long decoded(int)",
        "public int block(int,int) throws java.lang.IllegalArgumentException,java.lang.IndexOutOfBoundsException",
        "public int word(int,int) throws java.lang.IndexOutOfBoundsException",
        "public long frame(int,int) throws java.lang.IndexOutOfBoundsException",
    };
    private static final String[] FORBIDDEN = {"::", "synchronized", "finally", "assert ", "static {",
        "Exact(", "Random", "System.out", "System.nano", "System.current", "System.exit", "Thread", "package "};
    private static final Set<String> IMPORTS = Set.of("import java.util.Arrays;", "import java.util.ArrayList;",
        "import java.util.List;", "import java.util.Iterator;", "import java.util.NoSuchElementException;");

    public static void main(String[] args) throws IOException, ReflectiveOperationException {
        members();
        nestedClasses();
        source();
        Check.end();
    }

    private static void members() throws ReflectiveOperationException {
        Class<?> type = DeepChannel.class;
        int modifiers = type.getModifiers();
        Check.holds("public and final", Modifier.isPublic(modifiers) && Modifier.isFinal(modifiers));
        Set<String> found = new TreeSet<>();
        for (Method method : type.getDeclaredMethods()) {
            if (!Modifier.isPrivate(method.getModifiers())) {
                found.add(method.toGenericString().replace("DeepChannel.", "").replace(", ", ","));
            }
        }
        Check.same("methods", found.toString(), new TreeSet<>(Arrays.asList(FACE)).toString());
        for (Field field : type.getDeclaredFields()) {
            boolean open = !Modifier.isPrivate(field.getModifiers());
            Check.same("field " + field.getName(), open ? 1 : 0, field.getName().equals("NONE") ? 1 : 0);
            finalIfStatic(field);
        }
        noneIsAConstant();
        Constructor<?>[] constructors = type.getDeclaredConstructors();
        Check.same("constructors", constructors.length, 1);
        Check.same("constructor", constructors[0].toString(), "public DeepChannel()");
    }

    private static void nestedClasses() {
        Class<?>[] nested = DeepChannel.class.getDeclaredClasses();
        Check.holds("at most some twelve classes", nested.length <= 12);
        for (Class<?> type : nested) {
            int modifiers = type.getModifiers();
            boolean open = Modifier.isPublic(modifiers) || Modifier.isProtected(modifiers);
            Check.holds(type + " is static, and not open", Modifier.isStatic(modifiers) && !open);
            for (Method method : type.getDeclaredMethods()) {
                Check.holds(method + " has at most seven parameters", method.getParameterCount() <= 7);
                ownName(method);
            }
            for (Field field : type.getDeclaredFields()) {
                finalIfStatic(field);
            }
        }
        for (Method method : DeepChannel.class.getDeclaredMethods()) {
            ownName(method);
        }
    }

    /** "public static final int NONE = -1". */
    private static void noneIsAConstant() throws ReflectiveOperationException {
        Field none = DeepChannel.class.getDeclaredField("NONE");
        Check.same("NONE: what it is", none.toString(), "public static final int DeepChannel.NONE");
        Check.same("NONE", none.getInt(null), -1);
    }

    private static void finalIfStatic(Field field) {
        int kind = field.getModifiers();
        Check.holds(field + " is final if static", !Modifier.isStatic(kind) || Modifier.isFinal(kind));
    }

    /** No private method bears the name of a public one. */
    private static void ownName(Method method) {
        boolean taken = false;
        for (String line : FACE) {
            taken |= line.contains(" " + method.getName() + "(");
        }
        Check.holds(method + " has a name of its own", !taken || !Modifier.isPrivate(method.getModifiers()));
    }

    private static void source() throws IOException {
        for (String line : Files.readAllLines(Path.of("src/main/java/DeepChannel.java"))) {
            String code = line.strip();
            if (code.startsWith("*") || code.startsWith("/")) {
                continue;
            }
            for (String word : FORBIDDEN) {
                Check.holds("no '" + word + "' in: " + code, !code.contains(word));
            }
            boolean arrow = code.contains("->") && !code.startsWith("case ") && !code.startsWith("default");
            Check.holds("no lambda in: " + code, !arrow);
            Check.holds("only what rule 4 names: " + code, !code.startsWith("import ") || IMPORTS.contains(code));
        }
    }
}
