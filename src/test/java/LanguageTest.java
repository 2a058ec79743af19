import java.io.IOException;
import java.nio.file.Files;
import java.nio.file.Path;
import java.util.List;
import java.util.regex.Matcher;
import java.util.regex.Pattern;

/** Words that LANGUAGE.md rules out do not stand in the program; run from the project's folder. */
public final class LanguageTest {
    private static final Check check = new Check("LanguageTest");

    public static void main(String[] args) throws IOException {
        List<String> lines = Files.readAllLines(Path.of("src/main/java/ThawPoints.java"));
        String text = String.join("\n", lines);
        String code = text.replaceAll("(?s)/\\*.*?\\*/", "").replaceAll("//[^\n]*", "");
        String[] forbidden = {"->", "::", "Exact\\(", "\\bimport\\b", "\\bpackage\\b", "\\bcatch\\b", "\\bfinally\\b",
            "\\bsynchronized\\b", "\\bassert\\b", "\\brecord\\b", "\\bDouble\\.", "\\bSystem\\.(?!arraycopy\\()",
            "\\bArrays\\b", "\\bCollections\\b", "\\bRandom\\b", "\\bThread\\b", "\\bObject\\b", "\\binstanceof\\b",
            "String\\.(format|valueOf)", "\\bprintln?\\b", "static\\s*\\{", "while \\(true\\)", "for \\(;;\\)"};
        for (String word : forbidden) {
            check.due("found " + word, Pattern.compile(word).matcher(code).find() ? 1 : 0, 0);
        }
        Matcher library = Pattern.compile("\\bMath\\.(\\w+)").matcher(code);
        while (library.find()) {
            String name = library.group(1);
            check.due("Math." + name, List.of("floorDiv", "max", "min", "abs").contains(name) ? 1 : 0, 1);
        }
        Matcher thrown = Pattern.compile("throw new (\\w+)").matcher(code);
        while (thrown.find()) {
            String name = thrown.group(1);
            check.due("throw " + name, List.of("IllegalStateException", "IllegalArgumentException",
                    "IndexOutOfBoundsException").contains(name) ? 1 : 0, 1);
        }
        check.due("signs above 126", text.chars().anyMatch(sign -> sign > 126) ? 1 : 0, 0);
        methodLengths(lines);
        check.end();
    }

    private static void methodLengths(List<String> lines) {
        int start = -1;
        String indent = "";
        for (int line = 0; line < lines.size(); line++) {
            String here = lines.get(line);
            if (start < 0 && here.matches("( {4}| {8})\\S.*\\) *(throws [\\w, ]+)?\\{") && !here.contains("class ")) {
                start = line;
                indent = here.substring(0, here.length() - here.stripLeading().length());
            } else if (start >= 0 && here.equals(indent + "}")) {
                check.due("lines of the method at " + (start + 1), line - start + 1 <= 60 ? 1 : 0, 1);
                start = -1;
            }
        }
    }
}
