import java.lang.reflect.Constructor;
import java.lang.reflect.Field;
import java.lang.reflect.Method;
import java.lang.reflect.Modifier;
import java.nio.file.Files;
import java.nio.file.Path;
import java.util.ArrayList;
import java.util.List;
import java.util.TreeSet;
import java.util.regex.Matcher;
import java.util.regex.Pattern;

/** The public face of the document, and such rules of LANGUAGE.md as can be read off the class and its source. */
public final class FaceTest {
    private static final String SOURCE = "src/main/java/ElevenParts.java";
    private static final String[] FACE = {
        "int part(int,int,int,int)", "int told(int,int)", "int as(int,int)", "int turns(int,int)", "int set(int,int,int)",
        "int ahead(int,int,int)", "int book(int,int,int)", "int line(int,int)", "int factor(int)", "int deal(int)", "int seed(int)",
        "int together()", "int end()", "int critical()", "int staffed(int)", "int more(int,int,int)", "long odds(int,int)",
        "int span(int)", "long mean(int)", "int works(int,int)", "int fine(int)", "int feed(int,int,int)", "int trim(int)",
        "int text()", "int textTold(int,int)", "int why(int)", "int sheet(int,int,int)", "int mark(int,int,int)", "int pour(int)",
        "int table(int,int)", "int copy(int,int,int,int,int)", "int lay(int,int,int)", "int ask(int,int)", "int item(int,int)",
        "int rest(int,int)", "int tell(int)", "int check(int,int)", "int keep()", "int back()", "int count(int)"};
    private static final String[] RULED_OUT = {
        "throw", "throws", "try", "catch", "finally", "synchronized", "assert", "protected", "NaN", "Object", "HashMap",
        "hashCode", "System.out", "System.nano", "System.current", "Exact", "Random", "Thread", "var", "->", "::", "goto", "native"};

    private static final List<String> wrong = new ArrayList<>();

    public static void main(String[] args) throws Exception {
        face();
        insides();
        source();
        for (String w : wrong) System.out.println(w);
        System.out.println(wrong.isEmpty() ? "the face is as told" : wrong.size() + " things are not as told");
        if (!wrong.isEmpty()) System.exit(1);
    }

    private static void mustBe(boolean holds, String what) { if (!holds) wrong.add(what); }

    private static String told(Method m) {
        StringBuilder b = new StringBuilder(m.getReturnType().getSimpleName()).append(' ').append(m.getName()).append('(');
        for (Class<?> c : m.getParameterTypes()) b.append(b.charAt(b.length() - 1) == '(' ? "" : ",").append(c.getSimpleName());
        return b.append(')').toString();
    }

    private static void face() throws Exception {
        Class<?> c = ElevenParts.class;
        mustBe(Modifier.isPublic(c.getModifiers()) && Modifier.isFinal(c.getModifiers()), "the class is public and final");
        TreeSet<String> methods = new TreeSet<>();
        TreeSet<String> names = new TreeSet<>();
        for (Method m : c.getDeclaredMethods()) {
            if (Modifier.isPublic(m.getModifiers())) {
                mustBe(!Modifier.isStatic(m.getModifiers()), m + " is not static");
                methods.add(told(m));
                names.add(m.getName());
            } else mustBe(Modifier.isPrivate(m.getModifiers()), m + " is private");
        }
        mustBe(methods.equals(new TreeSet<>(List.of(FACE))), "the methods are those of the document: " + methods);
        List<Class<?>> all = new ArrayList<>(List.of(c.getDeclaredClasses()));
        for (Method m : c.getDeclaredMethods()) {
            mustBe(Modifier.isPublic(m.getModifiers()) || !names.contains(m.getName()), m + " bears a public name");
        }
        for (Class<?> inner : all) {
            for (Method m : inner.getDeclaredMethods()) mustBe(!names.contains(m.getName()), m + " bears a public name");
        }
        TreeSet<String> constants = new TreeSet<>();
        for (Field f : c.getDeclaredFields()) {
            if (Modifier.isPublic(f.getModifiers())) constants.add(f.getName() + "=" + f.getInt(null));
            else mustBe(Modifier.isPrivate(f.getModifiers()), f + " is private");
        }
        mustBe(constants.equals(new TreeSet<>(List.of("BAD=-1000000001", "NO=-1000000002", "FULL=-1000000003", "NONE=-1000000005",
                "NOTHING=-1000000011", "KIND=-1000000012", "INDEX=-1000000013", "SIZE=-1000000014"))), "the constants are those of the document");
        Constructor<?>[] made = c.getDeclaredConstructors();
        mustBe(made.length == 1 && Modifier.isPublic(made[0].getModifiers()) && made[0].getParameterCount() == 0, "one constructor");
    }

    private static void insides() {
        Class<?>[] inner = ElevenParts.class.getDeclaredClasses();
        mustBe(inner.length + 1 <= 12, "twelve classes at most");
        for (Class<?> c : inner) {
            mustBe(Modifier.isStatic(c.getModifiers()), c + " is static");
            mustBe(!Modifier.isPublic(c.getModifiers()) && !Modifier.isProtected(c.getModifiers()), c + " is not public");
            fields(c);
        }
        fields(ElevenParts.class);
    }

    private static void fields(Class<?> c) {
        int count = 0;
        for (Field f : c.getDeclaredFields()) {
            if (Modifier.isStatic(f.getModifiers())) mustBe(Modifier.isFinal(f.getModifiers()), f + " is final");
            else count++;
        }
        mustBe(count <= 20, c + " has twenty fields at most");
        for (Method m : c.getDeclaredMethods()) mustBe(m.getParameterCount() <= 7, m + " takes seven at most");
    }

    private static void source() throws Exception {
        String text = Files.readString(Path.of(SOURCE));
        mustBe(text.chars().allMatch(ch -> ch == '\n' || ch >= 32 && ch < 127), "signs 32 to 126 alone");
        String code = text.replaceAll("(?s)/\\*.*?\\*/", "").replaceAll("//[^\n]*", "").replaceAll("\"[^\"\n]*\"", "\"\"");
        for (String w : RULED_OUT) {
            String at = Character.isLetter(w.charAt(0)) ? "\\b" + Pattern.quote(w) : Pattern.quote(w);
            String end = Character.isLetter(w.charAt(w.length() - 1)) && !w.startsWith("System") ? "\\b" : "";
            mustBe(!Pattern.compile(at + end).matcher(code).find(), "'" + w + "' is ruled out");
        }
        Matcher imports = Pattern.compile("import ([^;]*);").matcher(code);
        while (imports.find()) mustBe(imports.group(1).equals("java.util.Arrays"), "import " + imports.group(1));
        mustBe(!code.contains("package "), "no package line");
        lengths(code);
    }

    /** Methods stay short: from a line that opens one to the line that closes it. */
    private static void lengths(String code) {
        String[] lines = code.split("\n");
        for (int i = 0; i < lines.length; i++) {
            Matcher open = Pattern.compile("^( {4}| {8})[a-z].*\\).*\\{$").matcher(lines[i]);
            if (!open.matches() || lines[i].contains(" class ")) continue;
            int last = i + 1;
            while (last < lines.length && !lines[last].equals(open.group(1) + "}")) last++;
            mustBe(last - i < 60, "a short method: " + lines[i].trim());
        }
    }
}
