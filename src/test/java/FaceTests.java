import java.io.IOException;
import java.lang.reflect.Constructor;
import java.lang.reflect.Executable;
import java.lang.reflect.Field;
import java.lang.reflect.Method;
import java.lang.reflect.Modifier;
import java.nio.charset.StandardCharsets;
import java.nio.file.Files;
import java.nio.file.Path;
import java.util.ArrayList;
import java.util.Collections;
import java.util.List;
import java.util.Set;
import java.util.TreeSet;

/** The public face of the class is that of the document, and the file keeps to the plainest rules. */
public final class FaceTests {
    private static final String I = "IndexOutOfBoundsException";
    private static final String A = "IllegalArgumentException";
    private static final String U = "UnsupportedOperationException";
    private static final String S = "IllegalStateException";
    private static final String N = "NoSuchElementException";
    private static final String M = "ArithmeticException";

    private FaceTests() {
    }

    public static void main(String[] args) throws IOException {
        face();
        members();
        source();
        Check.end("FaceTests");
    }

    private static List<String> due() {
        List<String> due = new ArrayList<>(List.of(
                "int dayOf(int,int,int) " + A, "int dateOf(int) " + A, "int length(int,int,int,int) " + A,
                "int law(char,int,int,boolean) " + A + "," + S, "int lawOf(int) " + I + "," + U + "," + N,
                "int person() " + S,
                "int warrant(int,char,int,int,int,int,int,int) " + I + "," + A + "," + U + "," + S,
                "int count(int,int,boolean) " + I + "," + A, "int activate(int,int) " + I + "," + A + "," + U,
                "int vary(int,int,int,int) " + I + "," + A, "boolean quash(int) " + I,
                "int approve(int,int) " + I + "," + A, "int add(int,int,int) " + I + "," + A + "," + S,
                "int giveBack(int,int) " + I + "," + A, "int atLarge(int,int,int) " + I + "," + A,
                "int recall(int,int,char) " + I + "," + A + "," + U + "," + S,
                "int letGo(int,int) " + I + "," + A + "," + U, "int begins(int) " + I + "," + N,
                "int needed(int) " + I + "," + N, "int release(int) " + I + "," + N, "int end(int) " + I + "," + N,
                "char stateOn(int,int) " + I + "," + A, "char byClerk(int,int) " + I + "," + A,
                "int keeper(int,int) " + I + "," + A + "," + N, "int held(int,int,int) " + I + "," + A,
                "int tooLong(int,int) " + I + "," + A, "int tooShort(int,int) " + I + "," + A,
                "int warrants() ", "long owed() ", "float prisonShare(int) " + A + "," + M,
                "double meanNeeded() " + M, "boolean isTrue() "));
        Collections.sort(due);
        return due;
    }

    private static void face() {
        List<String> got = new ArrayList<>();
        for (Method m : Termreckonry.class.getDeclaredMethods()) {
            if (!Modifier.isPrivate(m.getModifiers())) {
                got.add(m.getReturnType() + " " + m.getName() + "(" + names(m.getParameterTypes()) + ") "
                        + names(m.getExceptionTypes()));
                Check.is(m.getName() + " is public alone", Modifier.PUBLIC, m::getModifiers);
            }
        }
        Collections.sort(got);
        Check.is("the methods of the face", due(), () -> got);
        Constructor<?>[] made = Termreckonry.class.getDeclaredConstructors();
        Check.is("one constructor", 1, () -> made.length);
        Check.is("which is public", Modifier.PUBLIC, () -> made[0].getModifiers());
        Check.is("without parameters", 0, () -> made[0].getParameterCount());
        Check.is("the class is public and final", Modifier.PUBLIC | Modifier.FINAL,
                Termreckonry.class::getModifiers);
    }

    private static String names(Class<?>[] types) {
        List<String> names = new ArrayList<>();
        for (Class<?> type : types) {
            names.add(type.getSimpleName());
        }
        return String.join(",", names);
    }

    private static void members() {
        Set<String> face = new TreeSet<>();
        for (Method m : Termreckonry.class.getMethods()) {
            face.add(m.getName());
        }
        for (Field f : Termreckonry.class.getDeclaredFields()) {
            Check.is(f + " is private", true, () -> Modifier.isPrivate(f.getModifiers()));
        }
        List<Class<?>> classes = new ArrayList<>(List.of(Termreckonry.class.getDeclaredClasses()));
        Check.is("at most twelve classes", true, () -> classes.size() < 12);
        classes.add(Termreckonry.class);
        for (Class<?> c : classes) {
            Check.is(c + " is final", true, () -> Modifier.isFinal(c.getModifiers()));
            for (Field f : c.getDeclaredFields()) {
                int modifiers = f.getModifiers();
                Check.is(f + " is final, if static", true,
                        () -> !Modifier.isStatic(modifiers) || Modifier.isFinal(modifiers));
            }
            for (Executable e : c.getDeclaredMethods()) {
                boolean own = c != Termreckonry.class || Modifier.isPrivate(e.getModifiers());
                Check.is(e + " bears no name of the face", false, () -> own && face.contains(e.getName()));
                Check.is(e + " has at most seven parameters", true, () -> !own || e.getParameterCount() <= 7);
            }
        }
    }

    private static void source() throws IOException {
        String text = Files.readString(Path.of("src/main/java/Termreckonry.java"), StandardCharsets.US_ASCII);
        for (String word : new String[] {"package ", "finally", "synchronized", "assert ", "->", "::", "static {",
            "Throwable", "NullPointerException", "ArrayIndexOutOf", "ClassCastException", "NegativeArraySize",
            "ArrayStoreException", "Exact("}) {
            Check.is("no " + word + " in the file", false, () -> text.contains(word));
        }
        Check.is("one import", text.indexOf("import "), () -> text.lastIndexOf("import "));
    }
}
