import java.io.ByteArrayOutputStream;
import java.io.PrintStream;
import java.lang.reflect.Method;
import java.lang.reflect.Modifier;
import java.nio.charset.StandardCharsets;
import java.nio.file.Files;
import java.nio.file.Path;
import java.util.TreeSet;
import java.util.regex.Matcher;
import java.util.regex.Pattern;
import java.util.stream.Stream;

/** README.md against what stands: its program prints what it says, it names every call and every test. */
public final class ReadmeTest {
    private static final Check c = new Check();

    public static void main(String[] args) throws Exception {
        String readme = read(Path.of("README.md"));
        c.due("README.md's program is Example.java", block(readme, "java").equals(read(Path.of("src/test/java/Example.java"))), true);
        String got = printedByExample();
        c.due("Example prints\n" + got, got.equals(block(readme, "text")), true);
        testsAreNamed(readme);
        callsAreNamed(readme);
        c.end();
    }

    private static String read(Path file) throws Exception {
        return Files.readString(file, StandardCharsets.UTF_8).replace("\r\n", "\n");
    }

    private static String block(String readme, String sort) {
        Matcher m = Pattern.compile("(?s)```" + sort + "\n(.*?)```").matcher(readme);
        return m.find() ? m.group(1) : "README.md has none";
    }

    private static String printedByExample() {
        PrintStream screen = System.out;
        ByteArrayOutputStream printed = new ByteArrayOutputStream();
        System.setOut(new PrintStream(printed, true, StandardCharsets.UTF_8));
        Example.main(new String[0]);
        System.setOut(screen);
        return printed.toString(StandardCharsets.UTF_8).replace(System.lineSeparator(), "\n");
    }

    /** Each file of the tests has its name in README.md, and no other name is there. */
    private static void testsAreNamed(String readme) throws Exception {
        TreeSet<String> named = new TreeSet<>();
        Matcher m = Pattern.compile("`(\\w+Test|Model|Twins|Check|Example)`").matcher(readme);
        while (m.find()) {
            named.add(m.group(1));
        }
        TreeSet<String> there = new TreeSet<>();
        try (Stream<Path> files = Files.list(Path.of("src/test/java"))) {
            files.forEach(f -> there.add(f.getFileName().toString().replace(".java", "")));
        }
        c.due("README.md names " + named + ", there are " + there, named.equals(there), true);
    }

    private static void callsAreNamed(String readme) {
        for (Method m : BarkMoney.class.getDeclaredMethods()) {
            if (Modifier.isPublic(m.getModifiers())) {
                c.due("README.md names " + m.getName(), readme.contains("`" + m.getName() + "`"), true);
            }
        }
    }
}
