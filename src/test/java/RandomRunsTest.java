import java.lang.reflect.Method;
import java.util.ArrayList;
import java.util.HashMap;
import java.util.List;
import java.util.Map;
import java.util.Random;

/** Runs of calls drawn by fixed seeds, each answer held against NaiveParts; usage: RandomRunsTest [runs [first seed]]. */
public final class RandomRunsTest {
    private static final Map<String, Method> METHODS = new HashMap<>();
    private static final List<String> NAMES = new ArrayList<>();
    private static final int CALLS_MOST = 512;
    private static final int[] EDGES = {Integer.MIN_VALUE, Integer.MAX_VALUE, -1, -2, NaiveParts.NONE, NaiveParts.BAD, 0, 1, 65536, 40000};

    private final Random random;
    private final ElevenParts parts = new ElevenParts();
    private final NaiveParts naive = new NaiveParts();
    private final List<String> run = new ArrayList<>();
    private boolean wrong = false;

    /** Each run has a taste of its own, so that some runs go deep where others only pass. */
    private final List<String> taste = new ArrayList<>();

    private RandomRunsTest(long seed) {
        random = new Random(seed);
        for (String name : NAMES) {
            int often = List.of(0, 1, 1, 2, 6).get(random.nextInt(5));
            if (name.equals("back") || name.equals("check")) often = Math.min(1, often);
            if (List.of("told", "ahead", "mark", "lay").contains(name)) often += 2;
            for (int i = 0; i < often; i++) taste.add(name);
        }
    }

    public static void main(String[] args) throws Exception {
        int runs = args.length > 0 ? Integer.parseInt(args[0]) : 1500;
        long first = args.length > 1 ? Long.parseLong(args[1]) : 1;
        for (Method m : ElevenParts.class.getDeclaredMethods()) {
            if (java.lang.reflect.Modifier.isPublic(m.getModifiers())) METHODS.put(m.getName(), m);
        }
        NAMES.addAll(METHODS.keySet());
        NAMES.sort(null);
        int calls = 0;
        int wrongRuns = 0;
        for (long seed = first; seed < first + runs && wrongRuns < 5; seed++) {
            RandomRunsTest test = new RandomRunsTest(seed);
            test.goThrough();
            calls += test.run.size();
            if (test.wrong) wrongRuns++;
        }
        System.out.println(wrongRuns == 0 ? calls + " calls are answered as due" : wrongRuns + " runs are not answered as due");
        if (wrongRuns != 0) System.exit(1);
    }

    private void goThrough() throws Exception {
        int calls = 20 + random.nextInt(random.nextInt(4) == 0 ? 480 : 120);
        int texts = List.of(1, 1, 1, 8).get(random.nextInt(4));
        setUp();
        for (int i = 0; i < calls && run.size() < CALLS_MOST && !wrong; i++) {
            int act = random.nextInt(20);
            if (act < texts) feedText(new TextMaker(random).make());
            else if (act == 19 && random.nextInt(3) == 0) tellRow();
            else one(taste.get(random.nextInt(taste.size())));
        }
    }

    private void setUp() throws Exception {
        int parts = random.nextInt(5) == 0 ? 0 : random.nextInt(11);
        for (int i = 0; i < parts; i++) one("part");
        for (int i = 0; i < parts; i++) one("ahead");
        if (random.nextInt(4) != 0) {
            for (int i = 0; i < 4; i++) due("sheet", i, random.nextInt(2), random.nextInt(10));
            for (int i = 0; i < 5; i++) due("lay", i, random.nextInt(4), random.nextInt(4));
        }
    }

    private void one(String name) throws Exception {
        int[] a = new int[METHODS.get(name).getParameterCount()];
        for (int i = 0; i < a.length; i++) a[i] = argument(name, i);
        if (name.equals("ahead") && random.nextInt(4) != 0 && a[0] > a[1]) { int t = a[0]; a[0] = a[1]; a[1] = t; }
        due(name, a);
    }

    private void due(String name, int... a) throws Exception {
        if (wrong || run.size() >= CALLS_MOST) return;
        Object[] boxed = new Object[a.length];
        for (int i = 0; i < a.length; i++) boxed[i] = a[i];
        StringBuilder call = new StringBuilder(name).append(java.util.Arrays.toString(a));
        long want = naive.call(name, a);
        String got;
        try {
            got = String.valueOf(((Number) METHODS.get(name).invoke(parts, boxed)).longValue());
        } catch (java.lang.reflect.InvocationTargetException e) {
            got = e.getCause().toString();
        }
        run.add(call + " -> " + got);
        if (!got.equals(String.valueOf(want))) {
            wrong = true;
            System.out.println("wrong, due is " + want + ":\n  " + String.join("\n  ", run));
        }
    }

    private int upTo(int most) { return random.nextInt(most + 1); }

    private int argument(String name, int i) {
        if (random.nextInt(25) == 0) return EDGES[random.nextInt(EDGES.length)];
        boolean off = random.nextInt(20) == 0;
        int size = Math.max(1, naive.s.parts.size());
        switch (name + i) {
            case "part0": case "as1": case "turns1": case "ask1": return off ? 6 : upTo(5);
            case "part1": return off ? 100 : random.nextInt(3) == 0 ? upTo(3) : upTo(99);
            case "part2": return off ? 11 : random.nextInt(3) == 0 ? 10 * upTo(1) : upTo(10);
            case "part3": case "book0": case "works0": case "check0": return off ? 3 : upTo(2);
            case "told0": case "as0": case "turns0": case "set0": case "ahead0": case "ahead1": return off ? size : random.nextInt(size);
            case "told1": return off ? 11 : upTo(10);
            case "set1": return off ? 4 * upTo(1) : 1 + upTo(2);
            case "set2": return off ? List.of(3, 11, 100).get(upTo(2)) : List.of(upTo(2), upTo(10), upTo(99), 0).get(upTo(3));
            case "ahead2": return off ? 2 : random.nextInt(4) == 0 ? 0 : 1;
            case "book1": case "book2": return off ? 10000 : List.of(upTo(9999), upTo(50), 0).get(upTo(2));
            case "line0": return upTo(off ? 21 : 5);
            case "line1": return off ? 3 : upTo(2);
            case "factor0": return upTo(off ? 5 : 3) - 1;
            case "deal0": return off ? 11 : 1 + upTo(3);
            case "seed0": case "tell0": return random.nextInt();
            case "staffed0": case "more0": return off ? 10 : 1 + upTo(random.nextBoolean() ? 2 : 8);
            case "more1": return off ? 10 : upTo(9);
            case "more2": return off ? 1000 : random.nextInt(5) == 0 ? upTo(999) : upTo(40);
            case "odds0": return off ? 10000 : random.nextInt(4) == 0 ? upTo(9999) : upTo(400);
            case "odds1": case "mean0": case "textTold1": return off ? 2 : upTo(1);
            case "span0": return off ? 101 : 1 + upTo(99);
            case "works1": return off ? 41 : random.nextInt(4) == 0 ? 1 + upTo(39) : 1 + upTo(3);
            case "check1": return off ? 31 : random.nextInt(4) == 0 ? 1 + upTo(29) : 1 + upTo(3);
            case "fine0": return off ? 10000 : upTo(200);
            case "trim0": return upTo(naive.tape.size() + (off ? 2 : 0));
            case "textTold0": return upTo(naive.s.texts.size());
            case "why0": return off ? 3 : upTo(2);
            case "sheet0": case "mark0": case "pour0": case "table0": case "copy0": case "copy2": return off ? 4 : upTo(3);
            case "sheet1": return off ? 2 : random.nextInt(8) == 0 ? -1 : upTo(1);
            case "sheet2": return off ? 25 : random.nextInt(3) == 0 ? upTo(24) : upTo(6);
            case "mark1": return upTo(off ? 24 : 5);
            case "mark2": return List.of(upTo(100), -upTo(5), NaiveParts.NONE, random.nextInt(), 99999, 100000, -99999, -100000, 32768, NaiveParts.CARDS.get(upTo(9)), upTo(9)).get(upTo(10));
            case "table1": return off ? 4 : upTo(3);
            case "copy1": case "copy3": return off ? upTo(25) : upTo(3);
            case "copy4": return off ? 24 : upTo(4);
            case "lay0": case "ask0": case "item0": case "rest0": return off ? 5 : upTo(4);
            case "lay1": return off ? 4 : upTo(3);
            case "lay2": return off ? random.nextInt() : upTo(4);
            case "item1": return upTo(off ? 24 : 5);
            case "rest1": return off ? 0 : random.nextInt(40) - 20;
            case "count0": return off ? 7 : upTo(6);
            default: return random.nextInt();
        }
    }

    private void feedText(String text) throws Exception {
        if (random.nextInt(10) != 0) due("trim", 0);
        StringBuilder padded = new StringBuilder(text);
        while (padded.length() % 12 != 0) padded.append(' ');
        for (int i = 0; i + 12 <= padded.length() && i < 96; i += 12) {
            int[] v = new int[3];
            for (int j = 0; j < 12; j++) v[j / 4] = v[j / 4] << 8 | padded.charAt(i + j);
            due("feed", v);
        }
        if (random.nextInt(3) != 0 && text.length() <= naive.tape.size()) due("trim", text.length());
        due("text");
    }

    /** Numbers that are THE WORKS TOLD, or nearly so. */
    private void tellRow() throws Exception {
        if (run.size() + 64 > CALLS_MOST) return;
        if (naive.image == null || random.nextInt(3) == 0) due("keep");
        if (!naive.waiting.isEmpty()) due("check", 3, 0);
        int sort = upTo(2), n = 1 + upTo(random.nextInt(6) == 0 ? 29 : 4);
        List<Integer> row = naive.worksTold(sort, n);
        int twist = random.nextInt(6);
        if (twist == 0) row.remove(row.size() - 1);
        if (twist == 1 && row.size() < 60) row.add(upTo(3));
        if (twist == 2) row.set(random.nextInt(row.size()), upTo(300));
        for (int v : row) due("tell", v);
        due("check", sort, n);
    }

    /** Makes TEXTS by their grammar, and spoils some. */
    private static final class TextMaker {
        private final Random random;
        private final StringBuilder b = new StringBuilder();
        private int key;

        TextMaker(Random random) { this.random = random; }

        String make() {
            key = random.nextInt(3);
            blanks();
            b.append(List.of("say", "wait", "fine").get(key));
            if (random.nextInt(6) != 0) b.append(' ');
            if (random.nextInt(12) == 0) nest();
            else or(random.nextInt(4));
            blanks();
            String text = b.toString();
            if (random.nextInt(4) == 0) text = spoiled(text);
            return text.length() > 96 ? text.substring(0, 96) : text;
        }

        private void blanks() { while (random.nextInt(5) == 0) b.append(' '); }

        private void sign(String signs) {
            blanks();
            b.append(signs.charAt(random.nextInt(signs.length())));
            blanks();
        }

        private void or(int depth) {
            and(depth);
            while (random.nextInt(8) == 0) { sign("|"); and(depth); }
        }

        private void and(int depth) {
            test(depth);
            while (random.nextInt(8) == 0) { sign("&"); test(depth); }
        }

        private void test(int depth) {
            sum(depth);
            if (random.nextInt(6) == 0) { sign("<=>"); sum(depth); }
        }

        private void sum(int depth) {
            term(depth);
            while (random.nextInt(4) == 0) { sign("+-"); term(depth); }
        }

        private void term(int depth) {
            piece(depth);
            while (random.nextInt(4) == 0) { sign("*/"); piece(depth); }
        }

        private void piece(int depth) {
            int which = random.nextInt(depth > 0 ? 8 : 5);
            if (which < 2) b.append(random.nextInt(List.of(10, 100, 10000, 2).get(random.nextInt(4))));
            else if (which < 5) {
                String names = NaiveParts.names(key);
                b.append(names.charAt(random.nextInt(names.length())));
            } else if (which < 6) {
                b.append('!');
                blanks();
                piece(depth - 1);
            } else {
                b.append('(');
                blanks();
                or(depth - 1);
                blanks();
                b.append(')');
            }
        }

        /** Near the limits of eight ( and eight ! that are open. */
        private void nest() {
            int parens = random.nextInt(11), nots = random.nextInt(11);
            int closed = 0;
            while (parens + nots > 0) {
                if (nots > 0 && (parens == 0 || random.nextBoolean())) { b.append('!'); nots--; }
                else {
                    b.append('(');
                    parens--;
                    closed++;
                    if (random.nextInt(3) == 0) b.append("!1+");
                }
            }
            or(0);
            for (int i = 0; i < closed; i++) b.append(')');
        }

        private String spoiled(String text) {
            StringBuilder c = new StringBuilder(text);
            int at = random.nextInt(c.length());
            String any = "gtfned01239|&<=>+-*/!() sy?A" + (char) 0 + (char) 255 + (char) 200;
            switch (random.nextInt(5)) {
                case 0: c.deleteCharAt(at); break;
                case 1: c.setCharAt(at, any.charAt(random.nextInt(any.length()))); break;
                case 2: c.insert(at, any.charAt(random.nextInt(any.length()))); break;
                case 3: c.setLength(at); break;
                default: c.insert(at, "12345"); break;
            }
            return c.toString();
        }
    }
}
