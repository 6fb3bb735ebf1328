import java.io.IOException;
import java.lang.reflect.Constructor;
import java.lang.reflect.Field;
import java.lang.reflect.Method;
import java.lang.reflect.Modifier;
import java.nio.file.Files;
import java.nio.file.Path;
import java.util.Set;
import java.util.TreeSet;

/** The face is the document's, with its throws clauses in their order, and nothing beside it. */
public final class FaceTest {
    private static final String BOUNDS = "IndexOutOfBoundsException";
    private static final String ARGUMENT = "IllegalArgumentException";
    private static final String STATE = "IllegalStateException";
    private static final String[] FACE = {
        "int show(int int) " + BOUNDS + " " + ARGUMENT + " " + STATE,
        "int number(int) " + ARGUMENT + " " + STATE,
        "int lamp(int int boolean) " + BOUNDS,
        "int mend(int) " + BOUNDS,
        "int pass(int) " + ARGUMENT + " " + STATE,
        "int set(int int) " + BOUNDS + " " + ARGUMENT,
        "int append(int) " + ARGUMENT + " " + STATE,
        "int clearBuffer()",
        "int firstError()",
        "int lamps() " + ARGUMENT,
        "int undo() " + STATE,
        "int field(int int) " + BOUNDS + " " + ARGUMENT,
        "int lampOf(int int int) " + BOUNDS + " " + ARGUMENT,
        "int table(int int int) " + BOUNDS + " " + ARGUMENT,
        "int read(int int) " + BOUNDS + " " + ARGUMENT,
        "int count(int) " + ARGUMENT,
        "int setting(int) " + BOUNDS,
        "int ifBurnt(int int int) " + BOUNDS + " " + ARGUMENT,
        "int worstLamp(int) " + BOUNDS,
        "int strictest(int) " + BOUNDS,
        "int nextBurn()",
        "double clarity()",
        "long digest()",
    };

    /** By rule 5 of LANGUAGE.md; the arrays are written out in their initialisers. */
    private static final Set<String> STATIC_TYPES =
            Set.of("int", "long", "boolean", "char", "String", "int[]", "long[]", "char[]", "byte[]");

    public static void main(String[] args) throws IOException {
        theDocumentHasThisFace();
        theClassAndItsMembers();
        theMethods();
        theClassesInside();
        Check.end();
    }

    private static void theDocumentHasThisFace() throws IOException {
        Set<String> told = new TreeSet<>();
        for (String line : Files.readAllLines(Path.of("../shared/DOC.md"))) {
            if (line.matches("    public \\w+ \\w+\\(.*;")) {
                told.add(line.strip().replaceAll("public |;|throws |(?<=int|boolean) \\w+(?=[,)])|,", ""));
            }
        }
        Check.due("the document's face", told, new TreeSet<>(Set.of(FACE)));
    }

    private static void theClassAndItsMembers() {
        Check.due("the class", Modifier.toString(BulbShapes.class.getModifiers()), "public final");
        Constructor<?>[] constructors = BulbShapes.class.getDeclaredConstructors();
        Check.due("constructors", constructors.length, 1);
        Check.due("the constructor", constructors[0].toString(), "public BulbShapes()");
        for (Field field : BulbShapes.class.getDeclaredFields()) {
            String want = field.getName().equals("NONE") ? "public static final" : "private";
            Check.due("field " + field, Modifier.toString(field.getModifiers()).startsWith(want), true);
            dueStaticIsAConstant(field);
        }
    }

    private static void theMethods() {
        Set<String> names = new TreeSet<>();
        Set<String> open = new TreeSet<>();
        Set<String> closed = new TreeSet<>();
        for (Method method : BulbShapes.class.getDeclaredMethods()) {
            if (Modifier.isPrivate(method.getModifiers())) {
                closed.add(method.getName());
            } else {
                names.add(method.getName());
                open.add(told(method));
                Check.due("modifiers of " + method.getName(), Modifier.toString(method.getModifiers()), "public");
            }
        }
        Check.due("the methods", open, new TreeSet<>(Set.of(FACE)));
        closed.retainAll(names);
        Check.due("private methods with the name of a public one", closed, new TreeSet<String>());
    }

    private static String told(Method method) {
        StringBuilder told = new StringBuilder();
        told.append(method.getReturnType()).append(' ').append(method.getName()).append('(');
        for (Class<?> type : method.getParameterTypes()) {
            told.append(told.charAt(told.length() - 1) == '(' ? "" : " ").append(type);
        }
        told.append(')');
        for (Class<?> type : method.getExceptionTypes()) {
            told.append(' ').append(type.getSimpleName());
        }
        return told.toString();
    }

    private static void theClassesInside() {
        for (Class<?> inside : BulbShapes.class.getDeclaredClasses()) {
            int modifiers = inside.getModifiers();
            Check.due(inside + " is static", Modifier.isStatic(modifiers), true);
            Check.due(inside + " is closed", Modifier.isPublic(modifiers) || Modifier.isProtected(modifiers), false);
            for (Field field : inside.getDeclaredFields()) {
                dueStaticIsAConstant(field);
            }
        }
    }

    private static void dueStaticIsAConstant(Field field) {
        int modifiers = field.getModifiers();
        if (Modifier.isStatic(modifiers)) {
            Check.due(field + " is final", Modifier.isFinal(modifiers), true);
            Check.due(field + " is of a type that rule 5 names",
                    STATIC_TYPES.contains(field.getType().getSimpleName()), true);
        }
    }
}
