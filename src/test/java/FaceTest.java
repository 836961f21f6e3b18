import java.lang.reflect.Constructor;
import java.lang.reflect.Field;
import java.lang.reflect.Method;
import java.lang.reflect.Modifier;
import java.nio.file.Files;
import java.nio.file.Path;
import java.util.Set;
import java.util.TreeSet;
import java.util.regex.Matcher;
import java.util.regex.Pattern;

/** The public face is the document's and no more, and the source keeps to what LANGUAGE.md leaves. */
public final class FaceTest {
    private static final String[] CALLS = {
        "int grave(int,int,int)", "int out()", "int reader(int)", "int news(int,int,int)", "int bar(int,int)",
        "int wind(int)", "int weight(int,int)", "int now(int)", "int told(int,int)", "int of(int,int)",
        "int type(int)", "int yard()", "int paper()", "int day()", "int count(int)", "int hears(int,int)",
        "int wronged(int,int,int)", "int read(int,int,int)", "int undo()", "int lots(int)", "int seed(int)",
        "int stand(int,int)", "int cover(int,int,int)", "int orders(int)", "int years(int,int)",
        "int chance(int,int,int,int)", "int likeliest(int,int)", "int more(int,int)", "int sooner(int,int)",
        "long hidden(int,int)", "int alone(int,int)", "int image()", "int restore()",
        "int which(int,int,int,int,int)", "int judged(int,int,int,int)", "int film(int,int,int)",
        "int sheet(int,int,int)", "int drop(int)", "int item(int,int,int,long)", "int copy(int,int,int,int,int)"};
    private static final String[] CONSTANTS = {
        "BAD=-1", "NOT=-2", "FULL=-3", "NONE=-4", "NULL=-11", "CAST=-12", "INDEX=-13", "SIZE=-14"};

    private static int wrong = 0;

    private static void must(boolean holds, String what) {
        if (holds) return;
        wrong++;
        System.out.println("not so: " + what);
    }

    public static void main(String[] args) throws Exception {
        face();
        document();
        nested();
        source();
        if (wrong != 0) System.exit(1);
    }

    private static String signature(Method m) {
        StringBuilder s = new StringBuilder(m.getReturnType().getName()).append(' ').append(m.getName()).append('(');
        for (int i = 0; i < m.getParameterCount(); i++) {
            s.append(i == 0 ? "" : ",").append(m.getParameterTypes()[i].getName());
        }
        return s.append(')').toString();
    }

    private static void face() throws Exception {
        int modifiers = GraveNews.class.getModifiers();
        must(Modifier.isPublic(modifiers) && Modifier.isFinal(modifiers), "the class is public and final");
        Set<String> calls = new TreeSet<>();
        for (Method m : GraveNews.class.getDeclaredMethods()) {
            if (Modifier.isPublic(m.getModifiers())) calls.add(signature(m));
            else must(Modifier.isPrivate(m.getModifiers()) || m.isSynthetic(), m + " is private");
        }
        must(calls.equals(Set.of(CALLS)), "the calls are the document's: " + calls);
        Set<String> constants = new TreeSet<>();
        for (Field f : GraveNews.class.getDeclaredFields()) {
            if (Modifier.isPublic(f.getModifiers())) {
                must(Modifier.isStatic(f.getModifiers()) && Modifier.isFinal(f.getModifiers()), f + " is a constant");
                constants.add(f.getName() + "=" + f.getInt(null));
            } else {
                must(Modifier.isPrivate(f.getModifiers()), f + " is private");
            }
        }
        must(constants.equals(Set.of(CONSTANTS)), "the constants are the document's: " + constants);
        Constructor<?>[] made = GraveNews.class.getDeclaredConstructors();
        must(made.length == 1 && Modifier.isPublic(made[0].getModifiers()) && made[0].getParameterCount() == 0,
            "one public constructor");
    }

    /** The lists above are held against the document's own lines, so that neither is written wrongly. */
    private static void document() throws Exception {
        String page = Files.readString(Path.of("../shared/DOC.md"));
        int start = page.indexOf("```java");
        String block = page.substring(start, page.indexOf("```", start + 1));
        Set<String> calls = new TreeSet<>();
        Matcher call = Pattern.compile("public (int|long) (\\w+)\\((.*)\\);").matcher(block);
        while (call.find()) {
            String types = call.group(3).replaceAll("(int|long) \\w+", "$1").replace(" ", "");
            calls.add(call.group(1) + " " + call.group(2) + "(" + types + ")");
        }
        must(calls.equals(Set.of(CALLS)), "the document has these calls: " + calls);
        Set<String> constants = new TreeSet<>();
        Matcher constant = Pattern.compile("([A-Z]+) = (-\\d+)").matcher(block);
        while (constant.find()) constants.add(constant.group(1) + "=" + constant.group(2));
        must(constants.equals(Set.of(CONSTANTS)), "the document has these constants: " + constants);
    }

    private static void nested() {
        Set<String> named = new TreeSet<>();
        for (String call : CALLS) named.add(call.substring(call.indexOf(' ') + 1, call.indexOf('(')));
        Class<?>[] inside = GraveNews.class.getDeclaredClasses();
        must(inside.length < 12, "at most twelve classes");
        for (Class<?> c : inside) {
            must(Modifier.isStatic(c.getModifiers()) && !Modifier.isPublic(c.getModifiers()), c + " is static, not public");
            for (Method m : c.getDeclaredMethods()) {
                must(!named.contains(m.getName()), m + " bears the name of a public one");
                must(m.getParameterCount() <= 7, m + " has at most seven parameters");
            }
            fields(c);
        }
        for (Method m : GraveNews.class.getDeclaredMethods()) {
            if (Modifier.isPrivate(m.getModifiers())) must(!named.contains(m.getName()), m + " bears a public name");
        }
        fields(GraveNews.class);
    }

    private static void fields(Class<?> c) {
        int many = 0;
        for (Field f : c.getDeclaredFields()) {
            if (Modifier.isStatic(f.getModifiers())) must(Modifier.isFinal(f.getModifiers()), f + " is final");
            else many++;
        }
        must(many <= 20, c + " has at most twenty fields");
    }

    private static void source() throws Exception {
        String all = Files.readString(Path.of("src/main/java/GraveNews.java"));
        String bare = all.replaceAll("(?s)/\\*.*?\\*/", " ").replaceAll("//[^\n]*", " ").replaceAll("'[^']*'", "0");
        String[] words = {"throw", "throws", "try", "catch", "finally", "synchronized", "assert", "package", "new Thread",
            "Random", "System.out", "currentTimeMillis", "nanoTime", "Exact", "String", "double", "float", "protected"};
        for (String word : words) {
            must(!Pattern.compile("\\b" + Pattern.quote(word) + "\\b").matcher(bare).find(), "no " + word);
        }
        must(!bare.contains("->") && !bare.contains("::") && !bare.contains("\""), "no lambda, method reference, text");
        Matcher imports = Pattern.compile("import ([\\w.]+);").matcher(bare);
        while (imports.find()) must(imports.group(1).equals("java.util.Arrays"), "no import of " + imports.group(1));
        Set<String> library = Set.of("Arrays.fill", "Math.abs", "Math.max", "Math.min", "Integer.bitCount", "Integer.compare",
            "System.arraycopy");
        Matcher used = Pattern.compile("\\b(Arrays|Math|Integer|Long|System|List)\\.\\w+").matcher(bare);
        while (used.find()) must(library.contains(used.group()), "no use of " + used.group());
        for (char c : all.toCharArray()) must(c < 128, "signs are 1 to 127");
        lengths(bare);
    }

    /** Methods stay short: from the line of a brace at a method's depth to the line that ends it. */
    private static void lengths(String bare) {
        String[] lines = bare.split("\n", -1);
        int depth = 0;
        int start = -1;
        int startDepth = 0;
        for (int i = 0; i < lines.length; i++) {
            boolean opens = lines[i].matches(".*\\)\\s*\\{\\s*");
            if (start < 0 && opens && (depth == 1 || depth == 2)) {
                start = i;
                startDepth = depth;
            }
            for (char c : lines[i].toCharArray()) depth += c == '{' ? 1 : c == '}' ? -1 : 0;
            if (start >= 0 && depth == startDepth) {
                must(i - start <= 60, "a method of at most sixty lines at " + lines[start].trim());
                start = -1;
            }
        }
        must(depth == 0, "braces fit");
    }
}
