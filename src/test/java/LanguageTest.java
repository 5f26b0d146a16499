import java.nio.charset.StandardCharsets;
import java.nio.file.Files;
import java.nio.file.Path;
import java.util.List;
import java.util.regex.Matcher;
import java.util.regex.Pattern;

/** What can be seen of LANGUAGE.md in the source's text. */
public final class LanguageTest {
    private static final Check c = new Check();

    public static void main(String[] args) throws Exception {
        String source = Files.readString(Path.of("src/main/java/BarkMoney.java"), StandardCharsets.ISO_8859_1);
        c.due("signs of 1 to 127 alone", source.chars().allMatch(ch -> ch > 0 && ch < 128), true);
        String code = source.replaceAll("(?s)/\\*.*?\\*/", " ").replaceAll("//[^\n]*", " ");
        String[] words = {"throw", "throws", "try", "catch", "synchronized", "assert", "import", "package", "protected", "instanceof",
            "String", "StringBuilder", "System.out", "Object", "Random", "Thread", "double", "float", "toString", "equals", "hashCode"};
        for (String word : words) {
            c.due("no " + word, Pattern.compile("\\b" + Pattern.quote(word) + "\\b").matcher(code).find(), false);
        }
        c.due("no lambda", code.contains("->"), false);
        c.due("no method reference", code.contains("::"), false);
        c.due("no Exact", code.contains("Exact"), false);
        c.due("no static block", Pattern.compile("static\\s*\\{").matcher(code).find(), false);
        Matcher library = Pattern.compile("\\b(System|Math|Integer|Long|Arrays)\\.(\\w+)").matcher(code);
        List<String> allowed = List.of("System.arraycopy", "Math.min", "Math.max");
        while (library.find()) {
            c.due(library.group() + " is of the library's part", allowed.contains(library.group()), true);
        }
        methodsAreShort(source);
        c.end();
    }

    private static void methodsAreShort(String source) {
        String[] lines = source.split("\n");
        for (int i = 0; i < lines.length; i++) {
            Matcher begin = Pattern.compile("^( {4}| {8})(?! )[\\w\\[\\] ]+\\(.*\\) \\{$").matcher(lines[i]);
            if (begin.matches()) {
                int end = i;
                while (!lines[end].equals(begin.group(1) + "}")) {
                    end++;
                }
                c.due(lines[i].trim() + " is short", end - i < 60, true);
            }
        }
    }
}
