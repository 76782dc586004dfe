import java.lang.reflect.Constructor;
import java.lang.reflect.Field;
import java.lang.reflect.Method;
import java.lang.reflect.Modifier;
import java.nio.file.Files;
import java.nio.file.Path;
import java.util.TreeSet;
import java.util.regex.Matcher;
import java.util.regex.Pattern;

/** Looks at the face, and at those rules of LANGUAGE.md that a text or the classes can show. */
public final class LanguageTest {
    private static final String[] FACE = {
        "act(int,int,int)int", "as(int,int)int", "book(int)int", "by(int,int)int", "chance(int,int,int,int)long",
        "count(int)int", "feed(int)int", "fewest(int)int", "first(int)int", "go(int)int", "going(int,int,int)int",
        "image()int", "least(int)int", "leave()int", "looked(int)int", "night()int", "of(int,int)int",
        "person(int,int,int,int)int", "quicker(int)int", "rule(int,int)int", "seen(int,int)int", "span(int,int)int",
        "told(int)int", "trace(int)int", "undo()int"};
    private static int wrong = 0;

    private static void must(boolean holds, String what) {
        if (holds) return;
        wrong++;
        System.out.println("not so: " + what);
    }

    private static String told(Method m) {
        StringBuilder b = new StringBuilder(m.getName()).append('(');
        for (int i = 0; i < m.getParameterCount(); i++) b.append(i > 0 ? "," : "").append(m.getParameterTypes()[i].getName());
        return b.append(')').append(m.getReturnType().getName()).toString();
    }

    private static void face() {
        Class<?> c = LanternBridge.class;
        must(Modifier.isFinal(c.getModifiers()) && Modifier.isPublic(c.getModifiers()), "the class is public and final");
        TreeSet<String> shown = new TreeSet<>();
        TreeSet<String> names = new TreeSet<>();
        for (Method m : c.getDeclaredMethods()) {
            if (Modifier.isPrivate(m.getModifiers())) continue;
            shown.add(told(m));
            names.add(m.getName());
        }
        must(shown.equals(new TreeSet<>(java.util.Arrays.asList(FACE))), "the methods are the document's: " + shown);
        for (Constructor<?> k : c.getDeclaredConstructors()) must(k.getParameterCount() == 0, "one constructor");
        TreeSet<String> fields = new TreeSet<>();
        for (Field f : c.getDeclaredFields()) if (!Modifier.isPrivate(f.getModifiers())) fields.add(f.getName());
        must(fields.toString().equals("[BAD, FULL, NO, NONE, STATE]"), "the constants are the document's: " + fields);
        must(c.getDeclaredClasses().length <= 11, "twelve classes at most");
        inside(c, names);
        for (Class<?> in : c.getDeclaredClasses()) {
            must(Modifier.isStatic(in.getModifiers()), in + " is static");
            inside(in, names);
        }
    }

    private static void inside(Class<?> c, TreeSet<String> names) {
        int fields = 0;
        for (Field f : c.getDeclaredFields()) {
            if (!Modifier.isStatic(f.getModifiers())) fields++;
            else must(Modifier.isFinal(f.getModifiers()), f + " is final");
        }
        must(fields <= 20, c + " has twenty fields at most");
        for (Method m : c.getDeclaredMethods()) {
            must(m.getParameterCount() <= 7, m + " takes seven at most");
            if (c != LanternBridge.class || Modifier.isPrivate(m.getModifiers())) {
                must(!names.contains(m.getName()), m + " bears a name of the face");
            }
        }
    }

    private static void text(String source) {
        String bare = source.replaceAll("(?s)/\\*.*?\\*/", " ").replaceAll("//[^\n]*", " ")
                .replaceAll("\"[^\"\n]*\"", "\"\"").replaceAll("'[^'\n]*'", "' '");
        String[] never = {"throw", "throws", "try", "catch", "synchronized", "assert", "import", "package", "System\\.out",
            "new Object", "hashCode", "toString", "Exact"};
        for (String word : never) must(!Pattern.compile("\\b" + word + "\\b").matcher(bare).find(), "no " + word);
        must(!bare.contains("->") && !bare.contains("::"), "no lambda, no method reference");
        must(!bare.contains("@"), "no annotation: LANGUAGE.md lists none");
        must(!Pattern.compile("static\\s*\\{").matcher(bare).find(), "no static block");
        must(source.chars().allMatch(c -> c == '\n' || c >= 32 && c < 127), "plain signs");
        Matcher library = Pattern.compile("\\b(Integer|Long|Math|System|Arrays)\\.(\\w+)").matcher(bare);
        while (library.find()) {
            must("bitCount MIN_VALUE max min arraycopy".contains(library.group(2)), "library: " + library.group());
        }
    }

    public static void main(String[] args) throws Exception {
        Path root = Path.of(args.length > 0 ? args[0] : ".");
        face();
        text(Files.readString(root.resolve("src/main/java/LanternBridge.java")));
        System.out.println(wrong == 0 ? "the rules that are looked at are kept" : wrong + " rules are not kept");
        if (wrong != 0) System.exit(1);
    }
}
