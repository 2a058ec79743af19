import java.util.ArrayList;
import java.util.List;
import java.util.regex.Pattern;

/** What works as a text may be, by listing every number that may stand at a place; for ModelTest. */
final class Grammar {
    private static final String TRIM = "(0|-?([1-9]|[1-4][0-9]|50))";
    private static final String DEGREE = "(0|[1-9][0-9]{0,2}|1[0-4][0-9]{2}|1500|-([1-9][0-9]?|[1-3][0-9]{2}|400))";
    private static final String PART = "(m" + TRIM + "," + TRIM + "/[0-3]|c[0-5]:[0-3]|y([1-9]|1[0-9]|20)|p[0-5]|b[0-3]="
            + DEGREE + ")";
    private static final Pattern WORKS = Pattern.compile(PART + "(;" + PART + ")*");

    private static final List<List<List<String>>> PARTS = List.of(
        List.of(List.of("m"), numbers(-50, 50), List.of(","), numbers(-50, 50), List.of("/"), numbers(0, 3)),
        List.of(List.of("c"), numbers(0, 5), List.of(":"), numbers(0, 3)),
        List.of(List.of("y"), numbers(1, 20)),
        List.of(List.of("p"), numbers(0, 5)),
        List.of(List.of("b"), numbers(0, 3), List.of("="), numbers(-400, 1500)));

    private static List<String> numbers(int least, int most) {
        List<String> numbers = new ArrayList<>();
        for (int number = least; number <= most; number++) {
            numbers.add(Integer.toString(number));
        }
        return numbers;
    }

    static boolean isComplete(String text) {
        return WORKS.matcher(text).matches();
    }

    static int firstError(String text) {
        for (int length = 1; length <= text.length(); length++) {
            if (!begins(text.substring(0, length))) {
                return length - 1;
            }
        }
        return text.length();
    }

    private static boolean begins(String text) {
        int cut = text.lastIndexOf(';');
        if (cut >= 0 && !isComplete(text.substring(0, cut))) {
            return false;
        }
        for (List<List<String>> part : PARTS) {
            if (beginsPart(text.substring(cut + 1), part, 0)) {
                return true;
            }
        }
        return false;
    }

    private static boolean beginsPart(String text, List<List<String>> part, int place) {
        if (text.isEmpty()) {
            return true;
        }
        if (place == part.size()) {
            return false;
        }
        for (String word : part.get(place)) {
            if (word.startsWith(text) || text.startsWith(word)
                    && beginsPart(text.substring(word.length()), part, place + 1)) {
                return true;
            }
        }
        return false;
    }
}
