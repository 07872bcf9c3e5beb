import java.io.IOException;
import java.lang.reflect.Field;
import java.lang.reflect.Method;
import java.lang.reflect.Modifier;
import java.nio.file.Files;
import java.nio.file.Path;
import java.util.HashSet;
import java.util.Set;
import java.util.regex.Matcher;
import java.util.regex.Pattern;

/** What ../shared/LANGUAGE.md rules out and a look at the source's text can find. */
public final class LanguageTest {
    public static void main(String[] args) throws IOException {
        String source = Files.readString(Path.of("src/main/java/PictureBlock.java"));
        for (int i = 0; i < source.length(); i++) {
            if (source.charAt(i) > 126) Checks.due("sign at " + i, source.charAt(i), 126);
        }
        String bare = source.replaceAll("(?s)/\\*.*?\\*/", "").replaceAll("//[^\n]*", "").replaceAll("\"[^\"]*\"", "\"\"");
        String[] ruledOut = {"\\bthrow\\b", "\\btry\\b", "\\bcatch\\b", "\\bsynchronized\\b", "\\bassert\\b", "->", "::",
            "Exact\\b", "\\bpackage\\b", "\\bprotected\\b", "\\bSystem\\.(?!arraycopy)", "\\bequals\\b", "\\bhashCode\\b",
            "\\btoString\\b", "\"\\s*\\+|\\+\\s*\"", "\\bstatic\\s*\\{", "\\b(float|double)\\b", "Arrays\\.(?!fill|copyOf)"};
        for (String rule : ruledOut) Checks.due("found " + rule, count(bare, rule), 0);
        Checks.due("imports", count(bare, "(?m)^import "), count(bare, "(?m)^import java\\.util\\.Arrays;"));
        Checks.due("classes", count(bare, "\\bclass \\w+") <= 12, true);
        Checks.due("public members", count(bare, "\\bpublic "), 1 + 2 + 1 + 35);
        Checks.due("members of the face that are neither public nor private",
            count(bare, "(?m)^    (?!public |private |\\}| )\\S"), 0);
        methodsAreShort(source);
        theFaceAlone();
        for (Class<?> inside : PictureBlock.class.getDeclaredClasses()) classInside(inside);
        Checks.finish("LanguageTest");
    }

    private static void theFaceAlone() {
        Set<String> open = new HashSet<>();
        for (Method m : PictureBlock.class.getDeclaredMethods()) {
            if (Modifier.isPublic(m.getModifiers())) Checks.due("a public method of its own name, " + m.getName(), open.add(m.getName()), true);
        }
        Checks.due("public methods", open.size(), 35);
        for (Method m : PictureBlock.class.getDeclaredMethods()) {
            if (Modifier.isPublic(m.getModifiers()) || m.isSynthetic()) continue;
            Checks.due("private " + m.getName(), Modifier.isPrivate(m.getModifiers()), true);
            Checks.due("no name of a public one, " + m.getName(), open.contains(m.getName()), false);
        }
        for (Field f : PictureBlock.class.getDeclaredFields()) {
            boolean constant = f.getName().equals("NONE") || f.getName().equals("NOTHING");
            Checks.due("public " + f.getName(), Modifier.isPublic(f.getModifiers()), constant);
            Checks.due("private " + f.getName(), Modifier.isPrivate(f.getModifiers()), !constant);
        }
        Checks.due("constructors", PictureBlock.class.getConstructors().length, 1);
        Checks.due("final", Modifier.isFinal(PictureBlock.class.getModifiers()), true);
        fields(PictureBlock.class);
    }

    private static void classInside(Class<?> inside) {
        int open = Modifier.PUBLIC | Modifier.PROTECTED;
        Checks.due("static " + inside.getName(), Modifier.isStatic(inside.getModifiers()), true);
        Checks.due("not open " + inside.getName(), inside.getModifiers() & open, 0);
        for (Method m : inside.getDeclaredMethods()) Checks.due("not open " + m.getName(), m.getModifiers() & open, 0);
        fields(inside);
    }

    private static void fields(Class<?> of) {
        int own = 0;
        for (Field f : of.getDeclaredFields()) {
            if (!Modifier.isStatic(f.getModifiers())) own++;
            else Checks.due("static and final " + f.getName(), Modifier.isFinal(f.getModifiers()), true);
        }
        Checks.due("fields of " + of.getName(), own <= 20, true);
    }

    private static int count(String text, String pattern) {
        Matcher m = Pattern.compile(pattern).matcher(text);
        int n = 0;
        while (m.find()) n++;
        return n;
    }

    private static void methodsAreShort(String source) {
        String[] lines = source.split("\n");
        Pattern head = Pattern.compile("^( {4}| {8})(?! )(?!.*\\bclass\\b)[\\w ].*\\) \\{$");
        for (int i = 0; i < lines.length; i++) {
            Matcher m = head.matcher(lines[i]);
            if (!m.matches()) continue;
            int end = i;
            while (end < lines.length && !lines[end].equals(m.group(1) + "}")) end++;
            Checks.due("lines of " + lines[i].trim(), end - i <= 60, true);
            Checks.due("parameters of " + lines[i].trim(), count(lines[i], ",") <= 6, true);
        }
    }
}
