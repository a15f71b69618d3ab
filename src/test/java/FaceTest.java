import java.io.DataInputStream;
import java.io.IOException;
import java.io.InputStream;
import java.lang.reflect.Constructor;
import java.lang.reflect.Field;
import java.lang.reflect.Member;
import java.lang.reflect.Method;
import java.lang.reflect.Modifier;
import java.util.Arrays;
import java.util.List;
import java.util.Set;
import java.util.TreeSet;

/** The document's public face, no more and no less, and the library that LANGUAGE.md leaves to the class. */
public final class FaceTest {
    private static final String I = "IndexOutOfBoundsException";
    private static final String A = "IllegalArgumentException";
    private static final String S = "IllegalStateException";
    private static final List<String> FACE = List.of(
        "int section(int, int, int) " + I + " " + A,
        "int close(int, boolean) " + I,
        "int join(int, int, int) " + I + " " + A + " " + S,
        "int leave(int) " + I,
        "int pay(int, int) " + I + " " + A + " " + S,
        "int change(int, int) " + I + " " + S,
        "int fallBehind(int, boolean) " + I,
        "int payLate(int, int) " + I + " " + A + " " + S,
        "int transfer(int, int) " + I + " " + A + " " + S,
        "int retire(int) " + I + " " + S,
        "int set(int, int) " + I + " " + A,
        "int pass(int) " + A + " " + S,
        "int append(int) " + A + " " + S,
        "int clearBuffer()",
        "int firstError()",
        "int joinAll() " + A + " " + S,
        "int undo() " + S,
        "int sectionOf(int, int) " + I + " " + A,
        "int member(int, int) " + A,
        "int late(int, int, int) " + I + " " + A,
        "int count(int) " + A,
        "long sum(int) " + A,
        "int setting(int) " + I,
        "long ifPassed(int, int) " + A,
        "int pensionIn(int, int) " + I + " " + A,
        "int bestSection(int) " + I,
        "int fundLasts()",
        "double inTime()",
        "long digest()");
    private static final Set<String> LIBRARY = Set.of("java/lang/Object", "java/lang/System", "java/lang/Math",
        "java/lang/" + I, "java/lang/" + A, "java/lang/" + S);

    private FaceTest() {
    }

    private static String told(Method method) {
        StringBuilder text = new StringBuilder(method.getReturnType().getName() + " " + method.getName() + "(");
        for (Class<?> type : method.getParameterTypes()) {
            text.append(text.charAt(text.length() - 1) == '(' ? "" : ", ").append(type.getName());
        }
        text.append(")");
        for (Class<?> type : method.getExceptionTypes()) {
            text.append(" ").append(type.getSimpleName());
        }
        return text.toString();
    }

    private static boolean isOpen(Member member) {
        return !Modifier.isPrivate(member.getModifiers()) && !member.isSynthetic();
    }

    private static void face() {
        Class<?> face = PensionSections.class;
        Check.same("the class is public and final", face.getModifiers(), Modifier.PUBLIC | Modifier.FINAL);
        Set<String> open = new TreeSet<>();
        Set<String> openNames = new TreeSet<>();
        for (Method method : face.getDeclaredMethods()) {
            if (isOpen(method)) {
                Check.same("modifiers of " + method, method.getModifiers(), Modifier.PUBLIC);
                open.add(told(method));
                openNames.add(method.getName());
            }
        }
        Set<String> due = new TreeSet<>(FACE);
        Check.isTrue("the methods are " + due + ", not " + open, open.equals(due));
        for (Class<?> inside : face.getDeclaredClasses()) {
            Check.isTrue(inside + " is not public", !Modifier.isPublic(inside.getModifiers()));
            for (Method method : inside.getDeclaredMethods()) {
                Check.isTrue("a name of its own: " + method, !openNames.contains(method.getName()));
            }
        }
        for (Method method : face.getDeclaredMethods()) {
            Check.isTrue("a name of its own: " + method, isOpen(method) || !openNames.contains(method.getName()));
        }
        for (Field field : face.getDeclaredFields()) {
            Check.isTrue("only NONE is open: " + field, field.getName().equals("NONE") || !isOpen(field));
        }
        Constructor<?>[] constructors = face.getDeclaredConstructors();
        Check.same("constructors", constructors.length, 1);
        Check.same("parameters of the constructor", constructors[0].getParameterCount(), 0);
        Check.isTrue("the constructor is public", Modifier.isPublic(constructors[0].getModifiers()));
        Check.same("NONE", PensionSections.NONE, -1);
    }

    /** The classes that a class file names in its constants. */
    private static Set<String> namedIn(Class<?> of) throws IOException {
        String file = of.getName() + ".class";
        try (InputStream in = of.getResourceAsStream(file); DataInputStream data = new DataInputStream(in)) {
            data.readInt();
            data.readInt();
            int size = data.readUnsignedShort();
            String[] texts = new String[size];
            int[] classes = new int[size];
            for (int i = 1; i < size; i++) {
                int tag = data.readUnsignedByte();
                switch (tag) {
                    case 1 -> texts[i] = data.readUTF();
                    case 7 -> classes[i] = data.readUnsignedShort();
                    case 5, 6 -> {
                        data.readLong();
                        i++;
                    }
                    case 8, 16, 19, 20 -> data.readUnsignedShort();
                    case 15 -> data.skipBytes(3);
                    default -> data.readInt();
                }
            }
            Set<String> names = new TreeSet<>();
            Arrays.stream(classes).filter(i -> i > 0).forEach(i -> names.add(texts[i]));
            return names;
        }
    }

    private static void library(Class<?> of) throws IOException {
        for (String name : namedIn(of)) {
            boolean isOwn = name.startsWith("PensionSections") || name.startsWith("[");
            Check.isTrue(of + " names " + name, isOwn || LIBRARY.contains(name));
        }
    }

    public static void main(String[] args) throws IOException {
        face();
        library(PensionSections.class);
        for (Class<?> inside : PensionSections.class.getDeclaredClasses()) {
            library(inside);
        }
        Check.end();
    }
}
