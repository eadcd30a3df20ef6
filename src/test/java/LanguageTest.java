import java.io.IOException;
import java.lang.reflect.Modifier;
import java.nio.file.Files;
import java.nio.file.Path;
import java.util.ArrayDeque;
import java.util.Deque;
import java.util.Map;
import java.util.Set;
import java.util.TreeMap;
import java.util.TreeSet;
import java.util.regex.Matcher;
import java.util.regex.Pattern;

/** The rules of LANGUAGE.md, as far as the words of the class tell; FaceTest has rule 1. */
public final class LanguageTest {
    private static final int LONGEST_METHOD = 60;
    private static final int MOST_PARAMETERS = 7;
    private static final int DEEPEST_CALLS = 8;

    // Just what the class has a use for now: who needs more of what the rules leave adds it here.
    private static final Set<String> TYPES = Set.of("RopeChoices", "PlankRow", "Math",
        "IndexOutOfBoundsException", "IllegalArgumentException", "IllegalStateException");
    private static final Set<String> LIBRARY = Set.of("Math.abs", "Math.max", "Math.min");

    // Words that a rule forbids or bounds, and that the class does without.
    private static final String OTHER_WORDS = "\\b(assert|catch|enum|extends|finally|float"
        + "|implements|import|instanceof|interface|native|null|package|protected|record"
        + "|synchronized|try|var|volatile|equals|hashCode|toString)\\b|->|::";

    // A thrown exception is the only object that a call makes: all rows are made once.
    private static final Pattern THROWN = Pattern.compile("throw new \\w+Exception\\((\"\")?\\)");

    private final Answers answers = new Answers();
    private final Map<String, String> methods = new TreeMap<>();

    public static void main(String[] args) throws IOException {
        String source = Files.readString(Path.of("src/main/java/RopeChoices.java"));
        LanguageTest test = new LanguageTest();
        test.askAll(source, withoutCommentsAndTexts(source));
        test.answers.end("LanguageTest");
    }

    private void askAll(String source, String code) {
        due("signs that are not 1 to 127", 0L, source.chars().filter(c -> c < 1 || c > 127).count());
        due("types", new TreeSet<>(TYPES), found(code, "\\b[A-Z]\\w*[a-z]\\w*"));
        due("calls of the library", LIBRARY, found(code, "\\b[A-Z]\\w*[a-z]\\w*\\.\\w+"));
        due("words to look up in the rules", Set.of(), found(code, OTHER_WORDS));
        readMethods(code);
        due("all methods of the face were found", true, methods.size() >= 37);
        methods.forEach(this::askMethod);
        for (Class<?> inner : RopeChoices.class.getDeclaredClasses()) {
            int open = inner.getModifiers() & (Modifier.PUBLIC | Modifier.PROTECTED);
            due(inner + " is private or package-visible", 0, open);
            due(inner + " is static", true, Modifier.isStatic(inner.getModifiers()));
        }
    }

    private void due(String what, Object due, Object got) {
        answers.due(what, due, () -> got);
    }

    private static String withoutCommentsAndTexts(String source) {
        return source.replaceAll("\"[^\"\n]*\"", "\"\"").replaceAll("(?s)/\\*.*?\\*/", "")
            .replaceAll("//[^\n]*", "");
    }

    private static Set<String> found(String code, String pattern) {
        Set<String> found = new TreeSet<>();
        Matcher m = Pattern.compile(pattern).matcher(code);
        while (m.find()) {
            found.add(m.group());
        }
        return found;
    }

    /** Keeps each method's head, with what stands between its braces. */
    private void readMethods(String code) {
        Deque<String> heads = new ArrayDeque<>();
        Deque<Integer> starts = new ArrayDeque<>();
        int last = 0;
        for (int i = 0; i < code.length(); i++) {
            char sign = code.charAt(i);
            if (sign == '{') {
                heads.push(code.substring(last, i).trim().replaceAll("\\s+", " "));
                starts.push(i + 1);
            } else if (sign == '}') {
                keepMethod(heads.pop(), heads.peek(), code.substring(starts.pop(), i));
            }
            if (sign == ';' || sign == '{' || sign == '}') {
                last = i + 1;
            }
        }
    }

    private void keepMethod(String head, String around, String body) {
        if (around != null && around.contains("class ") && head.contains("(")) {
            methods.put(head, body);
        }
    }

    private void askMethod(String head, String body) {
        String parameters = head.substring(head.indexOf('(') + 1, head.indexOf(')'));
        due(head + ": is short", true, body.lines().count() <= LONGEST_METHOD);
        due(head + ": has few parameters", true, parameters.split(",").length <= MOST_PARAMETERS);
        due(head + ": goes at most eight deep", true, depth(nameOf(head), 1) <= DEEPEST_CALLS);
        if (TYPES.contains(nameOf(head))) {
            due(head + ": a constructor throws nothing", Set.of(), found(body, "\\bthrow\\b"));
        } else {
            String others = THROWN.matcher(body).replaceAll("");
            due(head + ": makes and throws no other", Set.of(), found(others, "\\b(new|throw)\\b"));
        }
    }

    private static String nameOf(String head) {
        String before = head.substring(0, head.indexOf('('));
        return before.substring(before.lastIndexOf(' ') + 1);
    }

    /** How deep the calls of a method go; those of one that calls itself go too deep. */
    private int depth(String name, int own) {
        int deepest = own;
        for (Map.Entry<String, String> method : methods.entrySet()) {
            if (own <= DEEPEST_CALLS && nameOf(method.getKey()).equals(name)) {
                for (String call : found(method.getValue(), "\\b[a-z]\\w*(?=\\()")) {
                    deepest = Math.max(deepest, depth(call, own + 1));
                }
            }
        }
        return deepest;
    }
}
