import java.lang.reflect.InvocationTargetException;
import java.lang.reflect.Method;
import java.lang.reflect.Modifier;
import java.nio.file.Files;
import java.nio.file.Path;
import java.util.ArrayList;
import java.util.Arrays;
import java.util.HashMap;
import java.util.LinkedHashMap;
import java.util.List;
import java.util.Map;
import java.util.Set;
import java.util.regex.Matcher;
import java.util.regex.Pattern;

/**
 * Runs of calls, each under the sentence of the document that it holds. At the end every sentence of "Terms"
 * and of the promises must have been quoted.
 *
 * A run is told in lines or between ';' ('#' begins a remark):
 *   new                        a new object
 *   part 0 5 3 1 = 0           the answer that is due
 *   part 6 5 3 1 ! BAD         a refusal that is due
 *   10 * part 0 5 3 1 = 0..9   ten times, with answers that rise by one (or '= 1': the same each time)
 *   ahead 0 1 1                any answer
 *   tape "say g"               THE TAPE holds that and nothing else
 *   text "say g" = 0           THE TAPE holds that, and is read
 *   text "say" fault 3         likewise: the place of its FAULT
 *
 * A twin gets every call but the refused ones and those that only ask; when a run ends, both must be in one
 * state: so each refusal and each question is also held to change nothing.
 */
final class Sentences {
    private static final Path DOCUMENT = Path.of("../shared/DOC.md");
    private static final int CALLS_MOST = 512;
    private static final Set<String> ASKING = Set.of("told", "as", "line", "factor", "together", "end", "critical", "staffed", "more",
            "odds", "span", "mean", "fine", "textTold", "why", "table", "ask", "item", "rest", "count");
    private static final Map<String, Integer> NAMED = Map.of("BAD", Due.BAD, "NO", Due.NO, "FULL", Due.FULL, "NONE", Due.NONE,
            "NOTHING", Due.NOTHING, "KIND", Due.KIND, "INDEX", Due.INDEX, "SIZE", Due.SIZE, "MIN", Due.LEAST, "MAX", Due.MOST);

    /** An object and how often it was called: beyond 512 calls nothing is promised. */
    private static final class Called {
        final ElevenParts object = new ElevenParts();
        int calls;
    }

    private final Map<String, Method> methods = new HashMap<>();
    private final Map<String, String> sections = new LinkedHashMap<>();
    private final Map<String, boolean[]> quoted = new HashMap<>();
    private Called x;
    private Called twin;
    private String where;
    private int asked;
    private int wrong;

    Sentences() throws Exception {
        for (Method m : ElevenParts.class.getDeclaredMethods()) {
            if (Modifier.isPublic(m.getModifiers())) methods.put(m.getName(), m);
        }
        if (Files.exists(DOCUMENT)) readDocument(Files.readString(DOCUMENT));
        else System.out.println("no " + DOCUMENT + ": what the tests quote is not looked up");
    }

    // ---- the document

    private void readDocument(String text) {
        String terms = text.substring(text.indexOf("## Terms") + 8, text.indexOf("Ahead of the calls")).replace("```text", " ").replace("```", " ");
        String[] parts = terms.split("======== \\d ");
        for (int i = 0; i < parts.length; i++) addSection("terms " + i, parts[i]);
        Matcher m = Pattern.compile("## Promise (\\d+): \\w.*\n\n`[^`]*`: (.*)\n").matcher(text);
        while (m.find()) addSection("promise " + m.group(1), m.group(2));
        if (parts.length != 6 || sections.size() != 47) fail("the document has other sections: " + sections.keySet());
    }

    private void addSection(String name, String text) {
        String plain = text.replaceAll("\\s+", " ").trim();
        sections.put(name, plain);
        quoted.put(name, new boolean[plain.length()]);
    }

    private void quote(String section, String quote) {
        if (sections.isEmpty()) return;
        String text = sections.getOrDefault(section, "");
        int at = text.indexOf(quote);
        if (at < 0) fail(section + " does not say: " + quote);
        else Arrays.fill(quoted.get(section), at, at + quote.length(), true);
    }

    private void allMustBeQuoted() {
        for (String section : sections.keySet()) {
            StringBuilder left = new StringBuilder();
            boolean[] marks = quoted.get(section);
            for (int i = 0; i < marks.length; i++) left.append(marks[i] ? ' ' : sections.get(section).charAt(i));
            String words = left.toString().replaceAll(" +", " ").trim();
            if (words.chars().anyMatch(Character::isLetterOrDigit)) fail(section + " has words that no test quotes: " + words);
        }
    }

    private void fail(String what) {
        wrong++;
        System.out.println(what);
    }

    void end() {
        allMustBeQuoted();
        System.out.println(wrong == 0 ? asked + " answers are as due, each under its sentence" : wrong + " things are not as due");
        if (wrong != 0) System.exit(1);
    }

    // ---- runs

    /** The sentence of the section, and the run that would go otherwise if it were broken. */
    void holds(String section, String sentence, String run) {
        quote(section, sentence);
        where = section + ", \"" + sentence + "\": ";
        begin();
        for (String line : run.split("\n")) {
            for (String step : steps(line)) doStep(step);
        }
        finish();
    }

    private void begin() {
        x = new Called();
        twin = new Called();
    }

    private static List<String> steps(String line) {
        List<String> found = new ArrayList<>();
        StringBuilder b = new StringBuilder();
        boolean inside = false;
        for (char c : line.toCharArray()) {
            if (c == '"') inside = !inside;
            if (c == '#' && !inside) break;
            if (c == ';' && !inside) {
                found.add(b.toString().trim());
                b.setLength(0);
            } else b.append(c);
        }
        found.add(b.toString().trim());
        found.removeIf(String::isEmpty);
        return found;
    }

    private void doStep(String step) {
        List<String> words = new ArrayList<>();
        Matcher m = Pattern.compile("\"[^\"]*\"|[^ \"]+").matcher(step);
        while (m.find()) words.add(m.group());
        int times = 1;
        if (words.size() > 2 && words.get(1).equals("*")) {
            times = Integer.parseInt(words.get(0));
            words = words.subList(2, words.size());
        }
        String name = words.get(0);
        if (name.equals("new")) {
            finish();
            begin();
            return;
        }
        int sign = 1;
        while (sign < words.size() && !Set.of("=", "!", "fault").contains(words.get(sign))) sign++;
        String how = sign < words.size() ? words.get(sign) : "";
        List<String> given = words.subList(1, Math.min(sign, words.size()));
        for (int i = 0; i < times; i++) {
            long got = doCall(name, given, how.equals("!") || how.equals("fault"));
            if (!how.isEmpty()) due(step, got, dueAnswer(how, words.get(sign + 1), i));
        }
    }

    private static long dueAnswer(String how, String told, int i) {
        if (how.equals("fault")) return -100 - number(told);
        int dots = told.indexOf("..");
        return dots < 0 ? longNumber(told) : longNumber(told.substring(0, dots)) + i;
    }

    private static int number(String word) { return NAMED.containsKey(word) ? NAMED.get(word) : (int) (long) Long.decode(word); }

    private static long longNumber(String word) { return NAMED.containsKey(word) ? NAMED.get(word) : Long.parseLong(word); }

    void due(String step, long got, long want) {
        asked++;
        if (got != want) fail(where + step + " answered " + got + ", due is " + want);
    }

    private long doCall(String name, List<String> given, boolean refused) {
        if (name.equals("tape") || name.equals("text") && !given.isEmpty()) {
            String text = given.get(0).substring(1, given.get(0).length() - 1);
            tape(x, text);
            if (name.equals("tape") || !refused) tape(twin, text);
            if (name.equals("tape")) return 0;
        }
        int[] a = name.equals("text") ? new int[0] : given.stream().mapToInt(Sentences::number).toArray();
        long got = call(x, name, a);
        if (name.equals("check")) call(twin, "check", 3, 1); // it drops the numbers that wait, whatever it answers
        else if (refused && name.equals("text")) call(twin, "trim", 0); // it uses THE TAPE up, whatever it answers
        else if (!refused && !ASKING.contains(name)) call(twin, name, a);
        return got;
    }

    private void tape(Called c, String text) {
        call(c, "trim", 0);
        StringBuilder padded = new StringBuilder(text);
        while (padded.length() % 12 != 0) padded.append(' ');
        for (int i = 0; i < padded.length(); i += 12) {
            call(c, "feed", Due.four(padded, i), Due.four(padded, i + 4), Due.four(padded, i + 8));
        }
        call(c, "trim", text.length());
    }

    private long call(Called c, String name, int... a) {
        Method method = methods.get(name);
        if (method == null || method.getParameterCount() != a.length) {
            throw new IllegalStateException(where + "no such call: " + name + Arrays.toString(a));
        }
        c.calls++;
        try {
            return ((Number) method.invoke(c.object, Arrays.stream(a).boxed().toArray())).longValue();
        } catch (InvocationTargetException e) {
            fail(where + name + Arrays.toString(a) + " threw " + e.getCause());
            return Long.MIN_VALUE;
        } catch (IllegalAccessException e) {
            throw new IllegalStateException(e);
        }
    }

    // ---- states

    private void finish() {
        String is = state(x), must = state(twin);
        asked++;
        if (!is.equals(must)) fail(where + "a refusal or a question has changed something:\n  " + is + "\n  " + must);
        if (x.calls > CALLS_MOST) fail(where + "a run of more than 512 calls: " + x.calls);
    }

    /** All that can be told; it ends with calls that change things, since the run is over. */
    private String state(Called c) {
        StringBuilder b = new StringBuilder();
        for (int what : new int[] {4, 5}) b.append(call(c, "count", what)).append(' ');
        slots(c, b);
        sheets(c, b);
        plan(c, b.append("plan "));
        if (call(c, "back") >= 0) plan(c, b.append("image "));
        return b.append("tape ").append(call(c, "text")).toString();
    }

    private void plan(Called c, StringBuilder b) {
        for (int what : new int[] {0, 1, 3, 6}) b.append(call(c, "count", what)).append(' ');
        long parts = call(c, "count", 0);
        for (int p = 0; p < parts; p++) for (int w = 0; w < 5; w++) b.append(call(c, "told", p, w)).append(' ');
        for (int i = 0; call(c, "line", i, 0) != Due.NONE; i++) for (int w = 0; w < 3; w++) b.append(call(c, "line", i, w)).append(' ');
        for (int i = 0; call(c, "textTold", i, 0) != Due.BAD; i++) for (int w = 0; w < 2; w++) b.append(call(c, "textTold", i, w)).append(' ');
        for (int key = 0; key < 3; key++) b.append(call(c, "why", key)).append(' ');
    }

    private void slots(Called c, StringBuilder b) {
        for (int i = 0; i < 5; i++) {
            b.append("slot ");
            long worth = call(c, "ask", i, 0);
            if (worth == Due.NOTHING) continue;
            if (worth != Due.KIND) {
                b.append(worth).append(' ');
                for (int k = 1; k < 6; k++) b.append(call(c, "ask", i, k)).append(' ');
            } else if (call(c, "item", i, -1) == Due.INDEX) items(c, i, b);
            else b.append(call(c, "rest", i, Due.MOST)).append(' ').append(call(c, "rest", i, Due.LEAST)).append(' ');
        }
    }

    private void sheets(Called c, StringBuilder b) {
        for (int i = 0; i < 4; i++) {
            b.append("sheet ");
            if (call(c, "lay", 4, 2, i) < 0) continue;
            items(c, 4, b);
            b.append(call(c, "mark", i, 0, Due.NONE)).append(' ');
        }
    }

    private void items(Called c, int slot, StringBuilder b) {
        for (int place = 0; place < 25; place++) {
            long item = call(c, "item", slot, place);
            if (item == Due.INDEX) break;
            b.append(item).append(' ');
        }
    }
}
