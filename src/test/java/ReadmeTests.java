import java.io.IOException;
import java.io.UncheckedIOException;
import java.lang.reflect.Method;
import java.lang.reflect.Modifier;
import java.nio.charset.StandardCharsets;
import java.nio.file.DirectoryStream;
import java.nio.file.Files;
import java.nio.file.Path;

/** The README tells what the class answers, and names all of its calls and each file of the tests. */
public final class ReadmeTests {
    private static final String TEXT = read();
    private static int answers = 0;

    private ReadmeTests() {
    }

    public static void main(String[] args) throws IOException {
        example();
        calls();
        files();
        Check.end("ReadmeTests");
    }

    private static String read() {
        try {
            return Files.readString(Path.of("README.md"), StandardCharsets.UTF_8);
        } catch (IOException e) {
            throw new UncheckedIOException(e);
        }
    }

    private static void example() {
        told("Termreckonry office = new Termreckonry();");
        Termreckonry office = new Termreckonry();
        answers("office.law('p', office.dayOf(2003, 1, 1), 5, false);",
                () -> office.law('p', office.dayOf(2003, 1, 1), 5, false));
        answers("int person = office.person();", office::person);
        int person = 0;
        answers("int passed = office.dayOf(2003, 5, 1);", () -> office.dayOf(2003, 5, 1));
        int passed = office.dayOf(2003, 5, 1);
        told("int warrant = office.warrant(person, 'f', passed - 30, passed, 2, 0, 0, -1);");
        int warrant = office.warrant(person, 'f', passed - 30, passed, 2, 0, 0, -1);
        answers("office.count(warrant, 12, false);", () -> office.count(warrant, 12, false));
        answers("office.add(person, passed + 100, 7);", () -> office.add(person, passed + 100, 7));
        answers("office.needed(warrant);", () -> office.needed(warrant));
        answers("office.dateOf(office.release(warrant));", () -> office.dateOf(office.release(warrant)));
        answers("office.dateOf(office.end(warrant));", () -> office.dateOf(office.end(warrant)));
        answers("office.stateOn(person, passed);", () -> office.stateOn(person, passed));
        told("int back = office.dayOf(2004, 8, 1);");
        int back = office.dayOf(2004, 8, 1);
        answers("office.recall(person, back, 'f');", () -> office.recall(person, back, 'f'));
        answers("office.stateOn(person, back);", () -> office.stateOn(person, back));
        answers("office.stateOn(person, back + 28);", () -> office.stateOn(person, back + 28));
        answers("office.held(person, passed, back);", () -> office.held(person, passed, back));
        answers("office.tooLong(person, 20000);", () -> office.tooLong(person, 20000));
        answers("office.tooShort(person, 20000);", () -> office.tooShort(person, 20000));
        Check.is("no other line with an answer", TEXT.split("; +// ").length - 1, () -> answers);
    }

    private static void told(String code) {
        Check.is("the README says " + code, true, () -> TEXT.contains("\n" + code));
    }

    private static void answers(String code, Check.Call call) {
        answers++;
        told(code);
        int begin = TEXT.indexOf("\n" + code) + 1 + code.length();
        String line = TEXT.substring(begin, TEXT.indexOf("\n", begin));
        Check.is(code, line.replace("//", "").trim(), () -> Check.outcome(call).toString());
    }

    private static void calls() {
        for (Method m : Termreckonry.class.getDeclaredMethods()) {
            if (Modifier.isPublic(m.getModifiers())) {
                Check.is("the README names " + m.getName(), true, () -> TEXT.contains("`" + m.getName() + "`"));
            }
        }
    }

    private static void files() throws IOException {
        try (DirectoryStream<Path> files = Files.newDirectoryStream(Path.of("src/test/java"), "*.java")) {
            for (Path file : files) {
                String name = file.getFileName().toString().replace(".java", "");
                Check.is("the README names " + name, true, () -> TEXT.contains("`" + name + "`")
                        || TEXT.contains("`" + name + "."));
            }
        }
    }
}
