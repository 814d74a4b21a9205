import java.lang.reflect.Constructor;
import java.lang.reflect.Field;
import java.lang.reflect.Method;
import java.lang.reflect.Modifier;
import java.nio.file.Files;
import java.nio.file.Path;
import java.util.Arrays;
import java.util.Set;
import java.util.TreeSet;
import java.util.regex.Matcher;
import java.util.regex.Pattern;

/** The rules of LANGUAGE.md that can be seen in the source and in the compiled class. */
public final class LanguageTest {
    private static final String[] FACE = {
        "int car(int, int)", "boolean forbid(int, int, boolean)", "boolean times(int, int, int)",
        "int feed(int, int, int, int, int)", "int end(int)", "int text()", "int fault(int)", "boolean by(int)",
        "int move(int, int)", "int change()", "boolean lend(int, int)", "int hour(int)", "int played(int)",
        "int years(int, int)", "int undo()", "int of(int, int)", "int track(int, int)", "int law(int, int)",
        "int is(int)", "int book(int, int)", "int foretold(int, int)", "boolean want(int)", "int shunts(int)",
        "int reach()", "int order(int, int)", "long rows(int)", "int lowest(int, int)", "int crane(boolean)",
        "int idle()", "boolean owe(int, int, int)", "int balance(int)", "int settled(int)", "int group(int)",
        "int trip(int, int, int)", "int stock(boolean)", "int seen(int, int, int)", "int histories(boolean)",
        "boolean late(int, int)", "long likely(int, boolean)", "int said(int, int)", "int whose()", "int heaviest()",
        "int worn()", "int amiss()", "int ledger(int)", "int image()", "int back()", "int about(int)"};
    private static int wrong = 0;

    private static void must(boolean holds, String what) {
        if (!holds) {
            wrong++;
            System.out.println("not so: " + what);
        }
    }

    private static String signature(Method m) {
        StringBuilder s = new StringBuilder(m.getReturnType().getName()).append(' ').append(m.getName()).append('(');
        for (Class<?> p : m.getParameterTypes()) {
            s.append(s.charAt(s.length() - 1) == '(' ? "" : ", ").append(p.getName());
        }
        return s.append(')').toString();
    }

    private static void face() {
        Set<String> due = new TreeSet<>(Arrays.asList(FACE));
        Set<String> got = new TreeSet<>();
        for (Method m : RailsGrowWider.class.getDeclaredMethods()) {
            if (Modifier.isPublic(m.getModifiers())) {
                got.add(signature(m));
                must(!Modifier.isStatic(m.getModifiers()), m + " is of an object");
            } else {
                must(Modifier.isPrivate(m.getModifiers()), m + " is private");
            }
        }
        must(got.equals(due), "the face is the document's: " + got);
        must(Modifier.isFinal(RailsGrowWider.class.getModifiers()), "the class is final");
        Constructor<?>[] made = RailsGrowWider.class.getDeclaredConstructors();
        must(made.length == 1 && Modifier.isPublic(made[0].getModifiers()) && made[0].getParameterCount() == 0,
            "one public constructor");
        for (Field f : RailsGrowWider.class.getDeclaredFields()) {
            must(Modifier.isPrivate(f.getModifiers()) || f.getName().equals("NONE"), f + " is private");
        }
    }

    private static void classes() {
        Set<String> names = new TreeSet<>();
        for (Method m : RailsGrowWider.class.getDeclaredMethods()) {
            if (Modifier.isPublic(m.getModifiers())) {
                names.add(m.getName());
            }
        }
        Class<?>[] inside = RailsGrowWider.class.getDeclaredClasses();
        must(inside.length < 12, "at most twelve classes");
        for (Class<?> c : inside) {
            must(Modifier.isStatic(c.getModifiers()), c + " is static");
            must(!Modifier.isPublic(c.getModifiers()) && !Modifier.isProtected(c.getModifiers()), c + " is not public");
            must(c.getDeclaredClasses().length == 0, c + " has no classes inside");
            checkMembers(c, names);
        }
        checkMembers(RailsGrowWider.class, new TreeSet<>());
    }

    private static void checkMembers(Class<?> c, Set<String> names) {
        int fields = 0;
        for (Field f : c.getDeclaredFields()) {
            must(!f.isSynthetic(), f + " is written out");
            if (Modifier.isStatic(f.getModifiers())) {
                must(Modifier.isFinal(f.getModifiers()), f + " is final");
                Class<?> t = f.getType();
                must(t == int.class || t == String.class || t == int[].class, f + " is a constant");
            } else {
                fields++;
            }
        }
        must(fields <= 20, c + " has at most twenty fields");
        for (Method m : c.getDeclaredMethods()) {
            must(m.getParameterCount() <= 7, m + " takes at most seven parameters");
            must(!m.isSynthetic(), m + " is written out");
            must(!names.contains(m.getName()), m + " bears no name of the face");
        }
    }

    /** The source without comments, texts and signs in quotes. */
    private static String bare(String source) {
        return source.replaceAll("(?s)/\\*.*?\\*/", "").replaceAll("//[^\n]*", "")
            .replaceAll("\"(\\\\.|[^\"\\\\])*\"", "TEXT").replaceAll("'(\\\\.|[^'\\\\])'", "SIGN");
    }

    private static void source(String source) {
        String bare = bare(source);
        for (String word : new String[] {"throw", "throws", "try", "catch", "finally", "synchronized", "assert", "package",
            "instanceof", "Object", "float", "double", "hashCode", "toString", "native", "volatile", "Exception"}) {
            must(!Pattern.compile("\\b" + word + "\\b").matcher(bare).find(), "no " + word);
        }
        must(!bare.contains("->") && !bare.contains("::") && !bare.contains("@"), "no lambda, reference, annotation");
        must(!Pattern.compile("static\\s*\\{").matcher(bare).find(), "no static initialiser");
        must(!Pattern.compile("TEXT\\s*\\+|\\+\\s*TEXT").matcher(bare).find(), "no texts joined by +");
        must(bare.replaceAll("import java\\.util\\.(Arrays|ArrayList|List);", "").indexOf("import") < 0, "imports");
        Matcher library = Pattern.compile("\\b(System|Math|Arrays|Integer|Long|String)\\.(\\w+)").matcher(bare);
        Set<String> allowed = Set.of("System.arraycopy", "Math.max", "Math.min", "Arrays.fill", "Arrays.copyOf");
        while (library.find()) {
            must(allowed.contains(library.group()), "the library has " + library.group());
        }
        for (int i = 0; i < source.length(); i++) {
            must(source.charAt(i) < 127, "signs 1 to 126 alone");
        }
        methodLengths(source);
    }

    private static void methodLengths(String source) {
        int start = -1;
        String[] lines = source.split("\n");
        for (int i = 0; i < lines.length; i++) {
            if (lines[i].matches("( {4}| {8})(public |private |static |final )*[\\w\\[\\]]+ ?\\w*\\(.*\\{")) {
                start = i;
            }
            if (start >= 0 && lines[i].matches("( {4}| {8})\\}")) {
                must(i - start <= 60, "a method of some sixty lines: " + lines[start]);
                start = -1;
            }
        }
    }

    public static void main(String[] args) throws Exception {
        face();
        classes();
        source(Files.readString(Path.of("src/main/java/RailsGrowWider.java")));
        System.out.println(wrong == 0 ? "the rules are kept" : wrong + " rules are not kept");
        if (wrong != 0) {
            System.exit(1);
        }
    }
}
