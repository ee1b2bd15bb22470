import java.io.IOException;
import java.nio.file.Files;
import java.nio.file.Path;
import java.util.ArrayDeque;
import java.util.ArrayList;
import java.util.Deque;
import java.util.HashMap;
import java.util.HashSet;
import java.util.List;
import java.util.Map;
import java.util.Set;
import java.util.regex.Matcher;
import java.util.regex.Pattern;

/** What of ../shared/LANGUAGE.md can be seen in the class's own words: a guard, not a proof. */
public final class LanguageTest {
    private static final Path CLASS = Path.of("src/main/java/TrampOffice.java");
    private static final String[] FORBIDDEN = {"throw", "throws", "try", "catch", "finally", "synchronized", "assert", "package",
        "protected", "double", "float", "equals", "hashCode", "toString", "System\\.(?!arraycopy)\\w+", "Thread", "Random",
        "native", "volatile", "Object", "Exception", "Scanner", "yield", "sealed", "var", "\\w+Exact", "Math\\.random"};
    private static final Pattern METHOD = Pattern.compile("^ {4,8}(?:public |private |static |final )*[\\w\\[\\]]+ (\\w+)\\(([^)]*)\\) \\{$");

    private static final Due due = new Due("LanguageTest");

    /** The program without its comments and what stands in quotes. */
    private static String bare(String source) {
        return source.replaceAll("(?s)/\\*.*?\\*/", "").replaceAll("//[^\n]*", "").replaceAll("\"[^\"\n]*\"", "\"\"").replaceAll("'[^'\n]'", "' '");
    }

    private static void words(String bare) {
        for (String word : FORBIDDEN) {
            Matcher m = Pattern.compile("\\b" + word + "\\b").matcher(bare);
            due.holds(!m.find(), "the word " + word + " does not stand in the class");
        }
        due.holds(!bare.contains("->"), "no arrow");
        due.holds(!bare.contains("::"), "no method reference");
        due.holds(!bare.contains("@"), "no annotation");
        Matcher imports = Pattern.compile("import ([^;]+);").matcher(bare);
        while (imports.find()) {
            due.holds(imports.group(1).matches("java\\.util\\.(Arrays|List|ArrayList|Iterator)"), "import " + imports.group(1));
        }
        due.holds(!Pattern.compile("static (?!final|class|int \\w+\\(|boolean \\w+\\()").matcher(bare.replaceAll("static final class", "static class")).find(), "what is static is final, a class or a function");
        due.holds(!bare.replaceAll("\"\"", "").matches("(?s).*[^\\x0a\\x20-\\x7e].*"), "signs of the source");
    }

    private static void shapes(String source) {
        Set<String> publics = new HashSet<>();
        Map<String, Integer> privates = new HashMap<>();
        String[] lines = source.split("\n");
        int classes = 0;
        for (int i = 0; i < lines.length; i++) {
            if (lines[i].contains(" class ") && !lines[i].contains("*")) {
                classes++;
            }
            Matcher m = METHOD.matcher(lines[i]);
            if (!m.matches() || m.group(1).equals("TrampOffice")) {
                continue;
            }
            String indent = lines[i].substring(0, lines[i].length() - lines[i].stripLeading().length());
            int end = i;
            while (!lines[end].equals(indent + "}")) {
                end++;
            }
            due.holds(end - i < 60, m.group(1) + " has at most some sixty lines");
            due.holds(m.group(2).split(",").length <= 7, m.group(1) + " takes at most seven parameters");
            if (lines[i].contains("public ")) {
                publics.add(m.group(1));
            } else {
                privates.put(m.group(1), i + 1);
            }
        }
        due.is(34, publics.size(), "public methods found");
        for (String name : privates.keySet()) {
            due.holds(!publics.contains(name), "line " + privates.get(name) + ": " + name + " is not a public one's name");
        }
        due.holds(classes <= 13, "at most some twelve classes: " + classes);
    }

    /** Which methods call which, by name; methods that call one another count as one. */
    private static void depth(String bare) {
        Map<String, Set<String>> calls = new HashMap<>();
        List<String> open = new ArrayList<>();
        String now = null;
        String[] lines = bare.split("\n");
        for (String line : lines) {
            Matcher m = METHOD.matcher(line);
            if (m.matches()) {
                now = m.group(1);
                open.add(now);
                calls.computeIfAbsent(now, k -> new HashSet<>());
            } else if (now != null) {
                Matcher call = Pattern.compile("(\\w+)\\(").matcher(line);
                while (call.find()) {
                    calls.get(now).add(call.group(1));
                }
            }
        }
        for (Set<String> called : calls.values()) {
            called.retainAll(open);
        }
        for (String name : calls.keySet()) {
            int deep = deep(name, calls, new ArrayDeque<>());
            due.holds(deep <= 8, name + " goes " + deep + " deep");
        }
    }

    /** The longest row of unlike methods, each called by the one ahead of it. */
    private static int deep(String name, Map<String, Set<String>> calls, Deque<String> above) {
        if (above.contains(name)) {
            return 0;
        }
        above.push(name);
        int most = 0;
        for (String called : calls.get(name)) {
            most = Math.max(most, deep(called, calls, above));
        }
        above.pop();
        return most + 1;
    }

    public static void main(String[] args) throws IOException {
        String source = Files.readString(CLASS);
        String bare = bare(source);
        words(bare);
        shapes(source);
        depth(bare);
        due.end();
    }
}
