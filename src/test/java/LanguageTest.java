import java.io.IOException;
import java.lang.reflect.Constructor;
import java.lang.reflect.Field;
import java.lang.reflect.Member;
import java.lang.reflect.Method;
import java.lang.reflect.Modifier;
import java.nio.charset.StandardCharsets;
import java.nio.file.Files;
import java.nio.file.Path;
import java.util.ArrayList;
import java.util.List;
import java.util.Set;
import java.util.TreeSet;
import java.util.regex.Matcher;
import java.util.regex.Pattern;

/** Those rules of LANGUAGE.md that can be read off the source's words or the compiled class. */
public final class LanguageTest {
    private static final Check CHECK = new Check();
    private static final String[] FORBIDDEN = {
        "\\bthrow\\b", "\\btry\\b", "\\bcatch\\b", "\\bsynchronized\\b", "\\bassert\\b", "->", "::", "\\bpackage\\b",
        "\\b\\w+Exact\\b", "\\bhashCode\\b", "\\btoString\\b", "\\bstatic\\s*\\{", "\\bObject\\b", "\\bHash\\w*\\b",
        "\\bwhile\\s*\\(\\s*true", "\\bfor\\s*\\(\\s*;\\s*;\\s*\\)", "\\bextends\\b", "\\bvar\\b", "\"[^\"]*\"\\s*\\+"};

    public static void main(String[] args) throws IOException {
        String source = Files.readString(Path.of("src/main/java/PaceBorder.java"), StandardCharsets.UTF_8);
        words(withoutComments(source));
        lengths(source);
        face();
        names();
        CHECK.end();
    }

    private static String withoutComments(String source) {
        return source.replaceAll("(?s)/\\*.*?\\*/", "").replaceAll("//[^\n]*", "");
    }

    private static void words(String code) {
        for (String word : FORBIDDEN) {
            Matcher m = Pattern.compile(word).matcher(code);
            CHECK.due("the source has " + word, m.find() ? 1 : 0, 0);
        }
        Matcher imports = Pattern.compile("import ([\\w.*]+);").matcher(code);
        while (imports.find()) {
            boolean listed = Set.of("java.util.Arrays", "java.util.ArrayList", "java.util.List").contains(imports.group(1));
            CHECK.due("import " + imports.group(1), listed ? 1 : 0, 1);
        }
    }

    /** A method begins at a line that ends in "{" behind a ")", and ends at a brace as far in. */
    private static void lengths(String source) {
        String[] lines = source.split("\n");
        Pattern head = Pattern.compile("^( {4}| {8})(?! )[\\w\\[\\]<> ]+\\((.*)\\) \\{$");
        for (int i = 0; i < lines.length; i++) {
            CHECK.due("line " + (i + 1) + " is long", lines[i].length() > 110 ? 1 : 0, 0);
            Matcher m = head.matcher(lines[i]);
            if (!m.matches() || lines[i].trim().startsWith("if") || lines[i].trim().startsWith("for")) continue;
            int end = i;
            while (end < lines.length && !lines[end].equals(m.group(1) + "}")) end++;
            CHECK.due("a method at line " + (i + 1) + " is too long", end - i > 60 ? 1 : 0, 0);
            int parameters = m.group(2).isBlank() ? 0 : m.group(2).split(",").length;
            CHECK.due("a method at line " + (i + 1) + " takes too many", parameters > 7 ? 1 : 0, 0);
        }
    }

    private static void face() {
        List<Member> members = new ArrayList<>(List.of(PaceBorder.class.getDeclaredFields()));
        members.addAll(List.of(PaceBorder.class.getDeclaredMethods()));
        members.addAll(List.of(PaceBorder.class.getDeclaredConstructors()));
        for (Member member : members) {
            int how = member.getModifiers();
            boolean shown = Modifier.isPublic(how) || Modifier.isPrivate(how);
            CHECK.due(member.getName() + " is public or private", shown ? 1 : 0, 1);
        }
        int constants = 0;
        for (Field field : PaceBorder.class.getDeclaredFields()) {
            if (Modifier.isPublic(field.getModifiers())) constants++;
            if (Modifier.isStatic(field.getModifiers())) {
                CHECK.due(field.getName() + " is final", Modifier.isFinal(field.getModifiers()) ? 1 : 0, 1);
            }
        }
        CHECK.due("public constants", constants, 6);
        int[] values = {PaceBorder.BAD, PaceBorder.FULL, PaceBorder.FINDING, PaceBorder.STATE, PaceBorder.SPENT,
            PaceBorder.NONE};
        int[] due = {-1, -2, -3, -4, -6, -9};
        for (int i = 0; i < due.length; i++) CHECK.due("constant " + i, values[i], due[i]);
        CHECK.due("constructors", PaceBorder.class.getDeclaredConstructors().length, 1);
        CHECK.due("final", Modifier.isFinal(PaceBorder.class.getModifiers()) ? 1 : 0, 1);
    }

    private static void names() {
        Set<String> open = new TreeSet<>();
        for (Method method : PaceBorder.class.getDeclaredMethods()) {
            if (Modifier.isPublic(method.getModifiers())) open.add(method.getName());
        }
        Class<?>[] inside = PaceBorder.class.getDeclaredClasses();
        CHECK.due("too many classes", inside.length + 1 > 12 ? 1 : 0, 0);
        List<Class<?>> all = new ArrayList<>(List.of(inside));
        all.add(PaceBorder.class);
        for (Class<?> one : all) {
            int fields = 0;
            for (Field field : one.getDeclaredFields()) if (!Modifier.isStatic(field.getModifiers())) fields++;
            CHECK.due(one.getName() + " has too many fields", fields > 20 ? 1 : 0, 0);
            for (Method method : one.getDeclaredMethods()) {
                boolean taken = !Modifier.isPublic(method.getModifiers()) && open.contains(method.getName());
                CHECK.due(one.getName() + " takes the name " + method.getName(), taken ? 1 : 0, 0);
            }
            for (Constructor<?> made : one.getDeclaredConstructors()) {
                CHECK.due("a constructor takes too many", made.getParameterCount() > 7 ? 1 : 0, 0);
            }
            if (one != PaceBorder.class) {
                CHECK.due(one.getName() + " is static", Modifier.isStatic(one.getModifiers()) ? 1 : 0, 1);
            }
        }
    }
}
