import java.io.IOException;
import java.lang.reflect.Method;
import java.nio.file.Files;
import java.nio.file.Path;
import java.util.Set;
import java.util.TreeSet;
import java.util.regex.Matcher;
import java.util.regex.Pattern;

/** Runs README.md's examples line by line: each call must answer what the comment behind it says. */
public final class ReadmeTest {
    private static final Pattern CALL = Pattern.compile("goose\\.(\\w+)\\(([^)]*)\\); +// (-?\\d+)(: .*)?");
    private static final Pattern TELL = Pattern.compile("tell\\(goose, \"([^\"]*)\"\\);");
    private static final Set<Integer> REFUSALS = new TreeSet<>(Set.of(-1, -2, -3, -9, -11, -12, -13, -14, -15));
    private static final Set<Long> ANSWERED = new TreeSet<>();
    private static int checked = 0;
    private static int wrong = 0;

    public static void main(String[] args) throws Exception {
        GooseArms goose = null;
        boolean inExample = false;
        String page = Files.readString(Path.of("README.md"));
        for (String line : page.split("\n")) {
            if (line.startsWith("```")) {
                inExample = line.equals("```java");
            } else if (inExample && line.equals("GooseArms goose = new GooseArms();")) {
                goose = new GooseArms();
            } else if (inExample && (line.startsWith("goose.") || line.startsWith("tell("))) {
                runs(goose, line);
            }
        }
        looksAtTable(page);
        must(checked >= 30, "only " + checked + " calls found");
        System.out.println(checked + " calls of README.md, " + wrong + " not as it says");
        if (wrong != 0) {
            System.exit(1);
        }
    }

    private static void must(boolean holds, String what) {
        if (!holds) {
            wrong++;
            System.out.println(what);
        }
    }

    private static void runs(GooseArms goose, String line) throws Exception {
        Matcher told = TELL.matcher(line);
        if (told.matches()) {
            tell(goose, told.group(1));
            return;
        }
        Matcher call = CALL.matcher(line);
        if (!call.matches()) {
            must(false, "can't be run: " + line);
            return;
        }
        long answer = answer(goose, call.group(1), call.group(2));
        checked++;
        ANSWERED.add(answer);
        must(answer == Long.parseLong(call.group(3)), line + " answered " + answer);
    }

    private static long answer(GooseArms goose, String name, String numbers) throws Exception {
        String[] each = numbers.isEmpty() ? new String[0] : numbers.split(", ");
        Object[] given = new Object[each.length];
        for (int i = 0; i < each.length; i++) {
            given[i] = Integer.valueOf(each[i]);
        }
        for (Method m : GooseArms.class.getMethods()) {
            if (m.getName().equals(name) && m.getParameterCount() == given.length) {
                return ((Number) m.invoke(goose, given)).longValue();
            }
        }
        throw new IOException("no such call: " + name);
    }

    /** As README.md has it, so that what is told there is told here too. */
    private static void tell(GooseArms goose, String text) {
        for (int at = 0; at < text.length(); at += 8) {
            int n = Math.min(8, text.length() - at);
            long eight = 0;
            for (int i = 0; i < n; i++) {
                eight |= (text.charAt(at + i) & 255L) << (8 * i);
            }
            goose.feed(eight, n);
        }
    }

    private static void looksAtTable(String page) {
        for (int refusal : REFUSALS) {
            must(Pattern.compile("(?m)^\\| " + refusal + " ").matcher(page).find(), "the table lacks " + refusal);
            must(ANSWERED.contains((long) refusal), "no example answers " + refusal);
        }
    }
}
