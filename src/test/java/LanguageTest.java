import java.nio.file.Files;
import java.nio.file.Path;
import java.util.ArrayList;
import java.util.List;
import java.util.TreeSet;
import java.util.regex.Matcher;
import java.util.regex.Pattern;

/** What of ../shared/LANGUAGE.md can be seen by looking for words; the rest is for whoever reads the class. */
public final class LanguageTest {
    private static final Checks c = new Checks();
    private static final String[] NEVER = {
        "\\bthrow\\b", "\\btry\\b", "\\bcatch\\b", "\\bsynchronized\\b", "\\bassert\\b", "\\bimport\\b", "\\bpackage\\b", "->", "::",
        "\\bstatic\\s*\\{", "\\bprotected\\b", "\\bException\\b", "\\bObject\\b", "\\bSystem\\.(?!arraycopy\\b)", "Exact\\b",
        "\\bThread\\b", "\\bRandom\\b", "\\bfloat\\b", "\\bdouble\\b", "\\bInteger\\.M", "[^\\x00-\\x7f]"};

    private static int occurrences(String code, String pattern) {
        Matcher m = Pattern.compile(pattern).matcher(code);
        int found = 0;
        while (m.find()) found++;
        return found;
    }

    private static void methods(String code) {
        Matcher m = Pattern.compile("(?m)^( +)(?:(public|private) )?(?:static )?(?!return|new|else)[\\w\\[\\]]+ (\\w+)\\(([^)]*)\\) \\{$").matcher(code);
        TreeSet<String> open = new TreeSet<>();
        List<String> hidden = new ArrayList<>();
        while (m.find()) {
            int end = code.indexOf("\n" + m.group(1) + "}", m.end());
            c.due("lines of " + m.group(3) + " above 60", Math.max(60, occurrences(code.substring(m.start(), end), "\n")), 60);
            int parameters = m.group(4).isEmpty() ? 0 : m.group(4).split(",").length;
            c.due("parameters of " + m.group(3) + " above 7", Math.max(7, parameters), 7);
            if ("public".equals(m.group(2))) open.add(m.group(3));
            else hidden.add(m.group(3));
        }
        c.due("public methods", open.size(), 37);
        for (String name : hidden) c.due("a method of one's own named as one of the face: " + name, open.contains(name) ? 1 : 0, 0);
    }

    public static void main(String[] args) throws Exception {
        String source = Files.readString(Path.of(args.length > 0 ? args[0] : "src/main/java/FromTheMiddle.java"));
        String code = source.replaceAll("(?s)/\\*.*?\\*/", "").replaceAll("//[^\n]*", "");
        for (String never : NEVER) c.due("never: " + never, occurrences(code, never), 0);
        int classes = occurrences(code, "\\bclass ");
        c.due("classes above 12", Math.max(12, classes), 12);
        c.due("classes inside are private, static and final", occurrences(code, "    private static final class "), classes - 1);
        c.due("static fields are final", occurrences(code, "\\bstatic (?!final)[\\w\\[\\]]+ \\w+ ?[;=]"), 0);
        c.due("members of the class itself are public or private",
            occurrences(code, "(?m)^    (?!public |private |\\}|/)\\S"), 0);
        methods(code);
        c.end();
    }
}
