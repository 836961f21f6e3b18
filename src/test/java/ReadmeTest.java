import java.io.File;
import java.lang.reflect.Method;
import java.lang.reflect.Modifier;
import java.nio.file.Files;
import java.nio.file.Path;
import java.util.regex.Matcher;
import java.util.regex.Pattern;

/** What README.md says of the class and of its tests holds: its calls answer so, and no call and no test is left out. */
public final class ReadmeTest {
    private static final Pattern MADE = Pattern.compile("GraveNews x = new GraveNews\\(\\);");
    private static final Pattern TYPED = Pattern.compile("for \\(char c : \"(.*)\"\\.toCharArray\\(\\)\\) x\\.type\\(c\\);");
    private static final Pattern CALL = Pattern.compile("x\\.(\\w+)\\((.*)\\);\\s*// (-?\\d+): .*");
    private static final int LEAST_CALLS = 40;

    private static int wrong = 0;
    private static int calls = 0;
    private static GraveNews x = null;

    private static void must(boolean holds, String what) {
        if (holds) return;
        wrong++;
        System.out.println("README.md: not so: " + what);
    }

    public static void main(String[] args) throws Exception {
        String page = Files.readString(Path.of("README.md"));
        runLines(page);
        namesAllCalls(page);
        namesAllTests(page);
        if (wrong != 0) System.exit(1);
    }

    private static void runLines(String page) throws Exception {
        boolean inside = false;
        for (String line : page.split("\n")) {
            if (line.startsWith("```")) {
                inside = line.equals("```java");
                x = null;
            } else if (inside) {
                runLine(line);
            }
        }
        must(calls >= LEAST_CALLS, "there are calls to be run: " + calls);
    }

    private static void runLine(String line) throws Exception {
        Matcher typed = TYPED.matcher(line);
        Matcher call = CALL.matcher(line);
        if (MADE.matcher(line).matches()) {
            x = new GraveNews();
        } else if (x != null && typed.matches()) {
            for (char c : typed.group(1).toCharArray()) x.type(c);
        } else if (x != null && call.matches()) {
            long got = answer(call.group(1), call.group(2));
            must(got == Long.parseLong(call.group(3)), line + " (answered " + got + ")");
            calls++;
        } else {
            must(false, "a line that can be run: " + line);
        }
    }

    private static long answer(String name, String list) throws Exception {
        String[] told = list.isEmpty() ? new String[0] : list.split(",\\s*");
        for (Method m : GraveNews.class.getMethods()) {
            if (!m.getName().equals(name) || m.getParameterCount() != told.length) continue;
            Object[] given = new Object[told.length];
            for (int i = 0; i < told.length; i++) {
                if (m.getParameterTypes()[i] == long.class) given[i] = Long.valueOf(told[i]);
                else given[i] = Integer.valueOf(told[i]);
            }
            return ((Number) m.invoke(x, given)).longValue();
        }
        must(false, "there is a call " + name + " of " + told.length);
        return 0;
    }

    private static void namesAllCalls(String page) {
        for (Method m : GraveNews.class.getDeclaredMethods()) {
            if (!Modifier.isPublic(m.getModifiers())) continue;
            must(page.contains("`" + m.getName() + "`"), "it names " + m.getName());
        }
    }

    private static void namesAllTests(String page) {
        File[] files = new File("src/test/java").listFiles();
        must(files != null && files.length > 0, "tests are under src/test/java");
        if (files == null) return;
        for (File file : files) {
            String name = file.getName().replace(".java", "");
            must(page.contains("- `" + name + "`: "), "it names " + name);
        }
        Matcher named = Pattern.compile("- `(\\w+Test)`: ").matcher(page);
        while (named.find()) must(new File("src/test/java/" + named.group(1) + ".java").isFile(), "there is " + named.group(1));
    }
}
