import java.io.IOException;
import java.nio.file.Files;
import java.nio.file.Path;
import java.util.Set;
import java.util.regex.Matcher;
import java.util.regex.Pattern;

/** Such rules of LANGUAGE.md as can be seen from the text of the class. Run from the project's root. */
public final class LanguageTest {
    private static final Path CLASS = Path.of("src/main/java/BurntOak.java");
    private static final Set<String> THROWN = Set.of("NoSuchElementException", "IllegalArgumentException", "IllegalStateException",
            "IndexOutOfBoundsException");
    private static final Set<String> OTHERS = Set.of("Math.min", "Math.max", "Math.abs", "Long.bitCount", "Integer.bitCount", "Arrays.fill", "System.arraycopy");

    private LanguageTest() {
    }

    public static void main(String[] args) throws IOException {
        String text = Files.readString(CLASS);
        String code = text.replaceAll("(?s)/\\*.*?\\*/", "").replaceAll("//[^\n]*", "").replaceAll("\"[^\"]*\"", "\"\"");
        Check.so("no tabs", text.indexOf('\t') < 0);
        for (String word : new String[] {"try", "catch", "finally", "synchronized", "assert", "instanceof", "double", "float", "package"}) {
            Check.so("no " + word, !Pattern.compile("\\b" + word + "\\b").matcher(code).find());
        }
        Check.so("no lambda, no method reference", !code.contains("->") && !code.contains("::"));
        Check.so("texts are not joined by +", !code.contains("\" +") && !code.contains("+ \""));
        Matcher thrown = Pattern.compile("throw new (\\w+)\\(").matcher(code);
        while (thrown.find()) {
            Check.so("rule 6: " + thrown.group(1), THROWN.contains(thrown.group(1)));
        }
        Matcher library = Pattern.compile("\\b(Math|Long|Integer|Arrays|System|String)\\.\\w+").matcher(code);
        while (library.find()) {
            Check.so("rule 4: " + library.group(), OTHERS.contains(library.group()));
        }
        rowsOfNumbers(code);
        methods(code);
        Check.finish(LanguageTest.class);
    }

    /** The library copies and fills rows of numbers alone. */
    private static void rowsOfNumbers(String code) {
        Matcher row = Pattern.compile("\\b(?:boolean|[A-Z]\\w*)\\[\\] (\\w+) =").matcher(code);
        int rows = 0;
        while (row.find()) {
            rows++;
            String given = "(?:Arrays\\.fill|System\\.arraycopy)\\([^;]*\\b" + row.group(1) + "\\b";
            Check.so("rule 4: the library changes " + row.group(1), !Pattern.compile(given).matcher(code).find());
        }
        Check.so("rule 4: rows that are none of numbers were looked at", rows >= 4);
    }

    /** Methods are short, and take at most seven parameters. */
    private static void methods(String code) {
        String name = "";
        int begun = 0;
        int at = 0;
        for (String line : code.split("\n")) {
            at++;
            Matcher head = Pattern.compile("^( {4}| {8})(?:\\w[\\w\\[\\]]* )+(\\w+)\\(([^)]*)\\).*").matcher(line);
            if (head.matches() && !line.trim().startsWith("return") && !line.contains(" = ")) {
                name = head.group(2);
                begun = at;
                Check.so("rule 11: parameters of " + name, head.group(3).split(",").length <= 7);
            }
            if (line.equals("    }") || line.equals("        }")) {
                Check.so("rule 11: lines of " + name + ": " + (at - begun), name.isEmpty() || at - begun <= 60);
                name = "";
            }
        }
    }
}
