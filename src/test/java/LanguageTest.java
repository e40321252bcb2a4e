import java.io.IOException;
import java.lang.reflect.Constructor;
import java.lang.reflect.Field;
import java.lang.reflect.Method;
import java.lang.reflect.Modifier;
import java.nio.file.Files;
import java.nio.file.Path;
import java.util.Arrays;
import java.util.Set;
import java.util.TreeSet;
import java.util.regex.Matcher;
import java.util.regex.Pattern;

/** Looks at the class by ../shared/LANGUAGE.md: the face and the fields by reflection, the rest in its text. */
public final class LanguageTest {
    private static final String FACE = "act(int,int,int)int again()int alter(int,int,int)int alterRow(int,int,int)int anew()int "
        + "arm(int,int)int chills(int)int court()int does(int,int)int draught()int enough()int feed(long,int)int "
        + "fits(int,int,int)int hearer(int,int,int)int heatFor(int,int)int hope(int,int)long item(int,int,int)int judge(int)int "
        + "keep()int kindFor(int)int lawOf(int)int many(int)int mind(int,int,int)int minds(int,int,int,int)int nextFor(int)int "
        + "odds(int,int,int)long of(int,int)int prove(int,int)int put(int,int,int)int raised(int)int right(int)int row(int,int)int "
        + "say(int)int saying(int,int,int)int sayingOf(int,int)int seed(int)int set(int,int)int sheet(int,int,int)int "
        + "shelf(int,int,int)int state(int)int taken(int,int)int tender(int,int)int tenderFor(int)int topicFor(int)int trace(int)int";
    private static final Pattern FORBIDDEN = Pattern.compile("\\b(throw|throws|try|catch|finally|synchronized|assert|import|package|"
        + "double|float|protected|volatile|native|strictfp|instanceof|Exception|Object|System\\.(?!arraycopy)\\w+|Thread|hashCode|"
        + "toString)\\b|->|::|@");
    private static int wrong = 0;

    public static void main(String[] args) throws IOException {
        String text = Files.readString(Path.of("src/main/java/GooseArms.java"));
        face();
        for (Class<?> inside : GooseArms.class.getDeclaredClasses()) {
            classInside(inside);
        }
        words(text);
        lengths(text);
        System.out.println(wrong == 0 ? "the class keeps to the language" : wrong + " faults of the language");
        if (wrong != 0) {
            System.exit(1);
        }
    }

    private static void must(boolean holds, String what) {
        if (!holds) {
            wrong++;
            System.out.println(what);
        }
    }

    private static String signature(Method m) {
        StringBuilder b = new StringBuilder(m.getName()).append('(');
        for (Class<?> type : m.getParameterTypes()) {
            b.append(b.charAt(b.length() - 1) == '(' ? "" : ",").append(type.getName());
        }
        return b.append(')').append(m.getReturnType().getName()).toString();
    }

    private static void face() {
        Class<?> c = GooseArms.class;
        must(Modifier.isPublic(c.getModifiers()) && Modifier.isFinal(c.getModifiers()), "the class is public and final");
        Set<String> open = new TreeSet<>();
        Set<String> openNames = new TreeSet<>();
        for (Method m : c.getDeclaredMethods()) {
            if (Modifier.isPublic(m.getModifiers()) && !Modifier.isStatic(m.getModifiers())) {
                open.add(signature(m));
                openNames.add(m.getName());
            } else {
                must(Modifier.isPrivate(m.getModifiers()) || m.isSynthetic(), m + " is not private");
            }
        }
        must(open.equals(new TreeSet<>(Arrays.asList(FACE.split(" ")))), "the public methods are " + open);
        for (Method m : c.getDeclaredMethods()) {
            must(Modifier.isPublic(m.getModifiers()) || !openNames.contains(m.getName()), m + " bears the name of a public one");
        }
        Set<String> constants = new TreeSet<>();
        for (Field f : c.getDeclaredFields()) {
            if (!Modifier.isPrivate(f.getModifiers())) {
                constants.add(Modifier.toString(f.getModifiers()) + " " + f.getType() + " " + f.getName());
            }
        }
        must(constants.equals(Set.of("public static final int BAD", "public static final int FULL", "public static final int NONE")),
            "the constants are " + constants);
        Constructor<?>[] constructors = c.getDeclaredConstructors();
        must(constructors.length == 1 && Modifier.isPublic(constructors[0].getModifiers()), "one public constructor");
        fields(c);
    }

    private static void classInside(Class<?> inside) {
        must(Modifier.isStatic(inside.getModifiers()), inside + " is not static");
        must(Modifier.isPrivate(inside.getModifiers()), inside + " is not private");
        fields(inside);
        for (Method m : inside.getDeclaredMethods()) {
            must(m.getParameterCount() <= 7, m + " takes too many parameters");
        }
    }

    private static void fields(Class<?> c) {
        int own = 0;
        for (Field f : c.getDeclaredFields()) {
            if (Modifier.isStatic(f.getModifiers())) {
                must(Modifier.isFinal(f.getModifiers()), f + " is not final");
            } else {
                own++;
            }
        }
        must(own <= 20, c + " has " + own + " fields");
    }

    private static void words(String text) {
        String bare = text.replaceAll("(?s)/\\*.*?\\*/", "").replaceAll("//[^\n]*", "");
        Matcher m = FORBIDDEN.matcher(bare.replaceAll("\"[^\"]*\"", "\"\""));
        while (m.find()) {
            must(false, "it says " + m.group());
        }
        for (String line : bare.split("\n")) {
            // what is made once with an object can't fill the room, however many calls come
            must(!line.contains("new ") || line.contains("private final ") || line.contains("    final "), "made in a call: " + line);
        }
        must(text.chars().allMatch(c -> c == '\n' || c >= 32 && c < 127), "other signs than plain ones");
    }

    private static void lengths(String text) {
        Matcher m = Pattern.compile("(?ms)^( {4}| {8})([a-z][^\n]*\\) \\{)$(.*?)^\\1\\}").matcher(text);
        int methods = 0;
        while (m.find()) {
            methods++;
            must(m.group(3).chars().filter(c -> c == '\n').count() <= 60, "longer than 60 lines: " + m.group(2));
        }
        must(methods > 100, "only " + methods + " methods found");
    }
}
