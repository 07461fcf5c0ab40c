import java.nio.file.Files;
import java.nio.file.Path;
import java.util.regex.Matcher;
import java.util.regex.Pattern;

/** README.md's example: each of its lines answers what is said behind it. */
public final class ReadmeTest {
    private static final Pattern LINE = Pattern.compile("x\\.(\\w+)\\(([^)]*)\\); *// (-?\\d+): .+");

    private static String example() throws Exception {
        String readme = Files.readString(Path.of("README.md"));
        int begin = readme.indexOf("```java\n") + 8;
        return readme.substring(begin, readme.indexOf("```", begin));
    }

    private static long[] numbers(String given) {
        if (given.isEmpty()) return new long[0];
        String[] told = given.split(", ");
        long[] numbers = new long[told.length];
        for (int i = 0; i < told.length; i++) numbers[i] = Long.decode(told[i].replace("L", ""));
        return numbers;
    }

    private static int answer(FromTheMiddle x, String name, long[] given) {
        if (name.equals("feed")) return x.feed(given[0], (int) given[1]);
        int[] ints = new int[given.length];
        for (int i = 0; i < given.length; i++) ints[i] = Math.toIntExact(given[i]);
        return Whole.call(x, name, ints);
    }

    public static void main(String[] args) throws Exception {
        Checks c = new Checks();
        FromTheMiddle x = null;
        for (String line : example().split("\n")) {
            if (line.equals("FromTheMiddle x = new FromTheMiddle();")) {
                x = new FromTheMiddle();
                continue;
            }
            Matcher m = LINE.matcher(line);
            if (!m.matches()) throw new IllegalStateException("README.md: " + line);
            c.due(m.group(1) + "(" + m.group(2) + ")", answer(x, m.group(1), numbers(m.group(2))), Long.parseLong(m.group(3)));
        }
        c.end();
    }
}
