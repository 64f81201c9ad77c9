import java.io.IOException;
import java.lang.management.ManagementFactory;
import java.lang.reflect.Field;
import java.lang.reflect.Method;
import java.lang.reflect.Modifier;
import java.nio.file.Files;
import java.nio.file.Path;
import java.util.ArrayList;
import java.util.Arrays;
import java.util.List;
import java.util.Set;
import java.util.TreeSet;
import java.util.regex.Matcher;
import java.util.regex.Pattern;

/** Those rules of LANGUAGE.md that can be seen in the file, in the class, or by what its calls make. */
public final class LanguageTest {
    private static final String FACE = "int feed(int,int,int,int,int) int text(int) int fault(int) int named(int,int) int look(int,int) "
        + "int letter(int,int) int far(int,int) int at(int,int,int) long law(int,int,int) boolean lay(int,int) boolean lit(int,boolean) "
        + "boolean bell(int,int) int hours(int) int where(int,int) int match(int) int lead(int,int,int) int chain(int) int meet(int,int) "
        + "int sight(int,int,int) int strike(int) boolean known(int) int dreamt(int) int tells(int,int) int rests(int,int) "
        + "int rest(int,int,int) int brought(int) int cost(int) int need() int chance(int,int,int) int tried(int,int) int undo() "
        + "int keep() int back() int count(int)";
    private static final String[] BANNED = {
        "\\bcatch\\b", "\\btry\\b", "\\bfinally\\b", "->", "::", "Exact\\b", "\\bsynchronized\\b", "\\bassert\\b", "static \\{", "\\bSystem\\.(?!arraycopy\\b)",
        "\\bdouble\\b", "\\bfloat\\b", "\\bhashCode\\b", "\\btoString\\b", "\\bvar\\b", "\\bpackage\\b", "\\bThread\\b", "\\bRandom\\b", "\" *\\+", "\\+ *\""
    };

    public static void main(String[] args) throws IOException {
        String source = Files.readString(Path.of("src/main/java/SleepPost.java"));
        String code = source.replaceAll("(?s)/\\*.*?\\*/", "").replaceAll("//[^\n]*", "");
        text(code);
        face();
        nested();
        depth(code);
        room();
        Check.end("LanguageTest");
    }

    private static int count(String regex, String in) {
        Matcher m = Pattern.compile(regex).matcher(in);
        int n = 0;
        while (m.find()) n++;
        return n;
    }

    private static void text(String code) {
        for (String banned : BANNED) {
            Check.same("rule: " + banned, count(banned, code), 0);
        }
        Check.same("imports", count("\\bimport\\b", code), 2);
        Check.same("import of Arrays", count("import java.util.Arrays;", code), 1);
        Check.same("import of NoSuchElementException", count("import java.util.NoSuchElementException;", code), 1);
        Check.same("rule 6: throws", count("throw new ", code), 2);
        Check.same("rule 12: rows are made in fields alone", count("(?m)^ {8,}(?! {4}).*= new \\w+\\[", code) + count("(?m)^    private final .*= new \\w+\\[", code),
            count("new \\w+\\[", code));
        Check.same("rule 9: loops whose own line tells no bound", count("\\b(?:while|for) \\((?![^\n]*(?: [<>]=? |[^;\n]* : ))", code), 0);
        Check.same("lines of a method", longestMethod(code) <= 60, true);
        Check.same("no sign beyond ASCII", count("[^\\x00-\\x7f]", code), 0);
    }

    private static int longestMethod(String code) {
        int longest = 0;
        int start = -1;
        int indent = 0;
        String[] lines = code.split("\n");
        for (int i = 0; i < lines.length; i++) {
            Matcher m = Pattern.compile("^( +)[\\w\\[\\] ]+\\(.*\\{$").matcher(lines[i]);
            if (start < 0 && m.find() && m.group(1).length() <= 8 && !lines[i].contains(" class ")) {
                start = i;
                indent = m.group(1).length();
            } else if (start >= 0 && lines[i].equals(" ".repeat(indent) + "}")) {
                longest = Math.max(longest, i - start + 1);
                start = -1;
            }
        }
        return longest;
    }

    private static String signature(Method m) {
        StringBuilder s = new StringBuilder(m.getReturnType() + " " + m.getName() + "(");
        for (Class<?> p : m.getParameterTypes()) s.append(s.charAt(s.length() - 1) == '(' ? "" : ",").append(p);
        return s.append(")").toString();
    }

    private static void face() {
        Set<String> due = new TreeSet<>(Arrays.asList(FACE.split("(?<=\\)) ")));
        Set<String> found = new TreeSet<>();
        Set<String> names = new TreeSet<>();
        for (Method m : SleepPost.class.getDeclaredMethods()) {
            if (Modifier.isPublic(m.getModifiers())) {
                found.add(signature(m));
                names.add(m.getName());
            }
        }
        Check.same("the face: " + found, found.equals(due), true);
        for (Method m : SleepPost.class.getDeclaredMethods()) {
            boolean open = Modifier.isPublic(m.getModifiers());
            Check.same("rule 1: private " + m, open || Modifier.isPrivate(m.getModifiers()), true);
            Check.same("rule 1: no name of the face " + m, open || !names.contains(m.getName()), true);
        }
        for (Field f : SleepPost.class.getDeclaredFields()) {
            Check.same("rule 1: private " + f, Modifier.isPrivate(f.getModifiers()) || f.getName().equals("NONE"), true);
        }
        Check.same("look throws", Arrays.stream(SleepPost.class.getDeclaredMethods()).filter(m -> m.getName().equals("look"))
            .mapToInt(m -> m.getExceptionTypes().length).sum(), 2);
        Check.same("final", Modifier.isFinal(SleepPost.class.getModifiers()), true);
    }

    private static void nested() {
        List<Class<?>> all = new ArrayList<>(Arrays.asList(SleepPost.class.getDeclaredClasses()));
        Check.same("rule 11: classes", all.size() + 1 <= 12, true);
        all.add(SleepPost.class);
        for (Class<?> c : all) {
            Check.same("rule 1: static " + c, c == SleepPost.class || Modifier.isStatic(c.getModifiers()), true);
            int fields = 0;
            for (Field f : c.getDeclaredFields()) {
                boolean constant = Modifier.isStatic(f.getModifiers());
                Check.same("rule 5: final " + f, !constant || Modifier.isFinal(f.getModifiers()), true);
                fields += constant ? 0 : 1;
            }
            Check.same("rule 11: fields of " + c + ": " + fields, fields <= 22, true);
            for (Method m : c.getDeclaredMethods()) {
                Check.same("rule 11: parameters of " + m, m.getParameterCount() <= 7, true);
                boolean ofFace = FACE.contains(" " + m.getName() + "(");
                Check.same("rule 1: no name of the face " + m, ofFace && c != SleepPost.class, false);
            }
        }
    }

    /** Rules 8 and 11: calls by name, as if every method of a name were called; none comes back to itself. */
    private static void depth(String code) {
        List<String> names = new ArrayList<>();
        List<String> bodies = new ArrayList<>();
        String[] lines = code.split("\n");
        String owner = "";
        for (int i = 0; i < lines.length; i++) {
            Matcher c = Pattern.compile("class (\\w+) \\{$").matcher(lines[i]);
            if (c.find()) owner = c.group(1);
            Matcher m = Pattern.compile("^( +)(?:(?:public|private|static|final) )*[\\w\\[\\]]+ (\\w+)\\(.*\\{$").matcher(lines[i]);
            if (!m.find() || m.group(1).length() > 8 || m.group(1).length() == 8 && owner.equals("SleepPost")) continue;
            if (m.group(1).length() == 4) owner = "SleepPost";
            StringBuilder body = new StringBuilder();
            for (int k = i + 1; !lines[k].equals(m.group(1) + "}"); k++) body.append(lines[k]).append('\n');
            names.add(owner + "." + m.group(2));
            bodies.add(body.toString());
        }
        Check.same("methods found", names.size() > 90, true);
        int deepest = 0;
        for (int i = 0; i < names.size(); i++) {
            deepest = Math.max(deepest, deep(names, bodies, i, 1));
        }
        Check.same("rule 11: calls go eight deep: " + deepest, deepest <= 8, true);
    }

    private static int deep(List<String> names, List<String> bodies, int method, int depth) {
        int deepest = depth;
        String owner = names.get(method).split("\\.")[0];
        Matcher call = Pattern.compile("(?:(\\w+)\\.)?(\\w+)\\(").matcher(bodies.get(method));
        while (call.find() && depth < 20) {
            String on = call.group(1);
            for (int k = 0; k < names.size(); k++) {
                String[] to = names.get(k).split("\\.");
                boolean same = on == null ? to[0].equals(owner) || to[0].equals("SleepPost") : !to[0].equals("SleepPost") && named(on, to[0]);
                if (same && to[1].equals(call.group(2))) deepest = Math.max(deepest, deep(names, bodies, k, depth + 1));
            }
        }
        return deepest;
    }

    /** Whether a field or class of that name is of a class: by the way the file names them. */
    private static boolean named(String on, String type) {
        switch (on) {
            case "now":
            case "image":
            case "trial":
            case "world":
                return type.equals("World");
            case "spareTown":
                return type.equals("Town");
            default:
                return on.equalsIgnoreCase(type);
        }
    }

    /** The room: an object is small, and no call but a throwing one makes anything. */
    private static void room() {
        com.sun.management.ThreadMXBean threads = (com.sun.management.ThreadMXBean) ManagementFactory.getThreadMXBean();
        long id = Thread.currentThread().getId();
        RandomTexts texts = new RandomTexts(5);
        String text = texts.whole();
        long made = 0;
        for (int i = 0; i < 3; i++) {
            long before = threads.getThreadAllocatedBytes(id);
            SleepPost post = new SleepPost();
            long between = threads.getThreadAllocatedBytes(id);
            Check.same("an object is small: " + (between - before), between - before < 40000, true);
            int[] n = Check.numbers(text);
            long start = threads.getThreadAllocatedBytes(id);
            all(post, n, text.length());
            made = threads.getThreadAllocatedBytes(id) - start;
        }
        Check.same("bytes that calls made", made, 0);
    }

    private static void all(SleepPost post, int[] n, int length) {
        for (int i = 0; i < n.length; i += 5) post.feed(n[i], n[i + 1], n[i + 2], n[i + 3], n[i + 4]);
        post.text(length);
        for (int i = 0; i < 9; i++) {
            post.fault(i); post.named(i, i); post.look(0, i % 6); post.letter(0, i); post.far(0, i); post.at(0, i, i); post.law(i, 0, 0);
            post.lay(i, i); post.lit(i, true); post.bell(i, i); post.where(0, 11); post.match(i); post.lead(0, i, 11); post.chain(i);
            post.meet(0, i); post.sight(i, 0, 0); post.strike(0); post.known(-1); post.dreamt(0); post.tells(0, 0); post.rests(i, i);
            post.rest(i, i, 0); post.brought(0); post.cost(i); post.need(); post.chance(i, 0, i); post.tried(i, 0); post.undo();
            post.keep(); post.back(); post.count(i); post.hours(i);
        }
    }
}
