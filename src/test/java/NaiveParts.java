import java.math.BigInteger;
import java.util.ArrayList;
import java.util.Arrays;
import java.util.List;
import java.util.Map;
import java.util.TreeMap;
import java.util.TreeSet;

/**
 * The document once more, as plainly as it can be written: no row is used twice, weeks go by one by one,
 * every way for the parts is gone through. RandomRunsTest holds ElevenParts against it.
 */
final class NaiveParts {
    static final int BAD = -1000000001, NO = -1000000002, FULL = -1000000003, NONE = -1000000005;
    static final int NOTHING = -1000000011, KIND = -1000000012, INDEX = -1000000013, SIZE = -1000000014;
    static final List<Integer> CARDS = List.of(1, 2, 3, 5, 8, 13, 21, 34, 55, 89);

    static final class P {
        int kind, guess, tail, sort;
        TreeSet<Integer> ahead = new TreeSet<>();

        P copied() {
            P p = new P();
            p.kind = kind;
            p.guess = guess;
            p.tail = tail;
            p.sort = sort;
            p.ahead = new TreeSet<>(ahead);
            return p;
        }
    }

    record T(int key, List<String> tokens) { }

    static final class S {
        List<P> parts = new ArrayList<>();
        List<int[]> book = new ArrayList<>();
        List<T> texts = new ArrayList<>();
        int z = 1;

        S copied() {
            S s = new S();
            for (P p : parts) s.parts.add(p.copied());
            for (int[] line : book) s.book.add(line.clone());
            s.texts.addAll(texts);
            s.z = z;
            return s;
        }
    }

    S s = new S();
    S image = null;
    List<Integer> tape = new ArrayList<>();
    List<Integer> waiting = new ArrayList<>();
    Object[] sheets = new Object[4];
    Object[] slots = new Object[5];

    // ---- helpers

    static boolean in(int v, int a, int b) { return a <= v && v <= b; }

    boolean isPart(int i) { return in(i, 0, s.parts.size() - 1); }

    static int up(int kind) {
        return switch (kind) { case 1, 2, 5 -> 0; case 3 -> 1; case 4 -> 2; default -> -1; };
    }

    static boolean under(int kind, int wanted) {
        return kind == wanted || (up(kind) >= 0 && under(up(kind), wanted));
    }

    static int hold(int v, int a, int b) { return v < a ? a : v > b ? b : v; }

    static int factorIn(S s, int sort) {
        int said = 0, was = 0;
        for (int[] line : s.book) if (sort == -1 || line[0] == sort) { said += line[1]; was += line[2]; }
        return said == 0 ? 100 : hold(100 * was / said, 1, 999);
    }

    static T counts(S s, int key) {
        T found = null;
        for (T t : s.texts) if (t.key == key) found = t;
        return found;
    }

    static int asPartSays(S s, P p) {
        T t = counts(s, 0);
        return t == null ? p.guess : hold(value(t, Map.of("g", p.guess, "t", p.tail, "f", factorIn(s, -1))), 0, 999);
    }

    static int says(S s, P p) { return saysAs(s, p, p.kind); }

    static int saysAs(S s, P p, int kind) {
        switch (kind) {
            case 0: return asPartSays(s, p);
            case 1: return Math.min(999, saysAs(s, p, 0) + p.tail);
            case 2: return Math.min(999, saysAs(s, p, 0) * factorIn(s, -1) / 100);
            case 3: return saysAs(s, p, 1) * 2 / 3;
            case 4: return Math.min(999, saysAs(s, p, 0) * factorIn(s, p.sort) / 100);
            default:
                int thought = saysAs(s, p, 0);
                return CARDS.stream().filter(c -> c >= thought).findFirst().orElse(89);
        }
    }

    static int worth(P p) {
        return switch (p.kind) {
            case 0 -> p.guess;
            case 1 -> p.guess + p.tail;
            case 2 -> 50 - p.guess;
            case 3 -> 2 * (p.guess + p.tail);
            case 4 -> 50 - p.guess + p.sort;
            default -> 13;
        };
    }

    static int waitsFor(S s, P p) {
        T t = counts(s, 1);
        return t == null ? 0 : hold(value(t, Map.of("n", p.ahead.size(), "g", p.guess, "t", p.tail)), 0, 99);
    }

    static int[] allSays(S s) { return s.parts.stream().mapToInt(p -> says(s, p)).toArray(); }

    static int[] allWaits(S s) { return s.parts.stream().mapToInt(p -> waitsFor(s, p)).toArray(); }

    /** begins, ends, and THE END by itself */
    static int[][] schedule(S s, int[] lengths, int[] waits) {
        int n = s.parts.size();
        int[] begins = new int[n], ends = new int[n];
        for (int i = 0; i < n; i++) {
            int latest = 0;
            for (int a : s.parts.get(i).ahead) latest = Math.max(latest, ends[a]);
            begins[i] = latest + waits[i];
            ends[i] = begins[i] + lengths[i];
        }
        return new int[][] {begins, ends, {Arrays.stream(ends).max().orElse(0)}};
    }

    static int endSaid(S s) { return schedule(s, allSays(s), allWaits(s))[2][0]; }

    static int slack(S s, int part) {
        int[] lengths = allSays(s), waits = allWaits(s);
        int end = schedule(s, lengths, waits)[2][0];
        int fits = 0, not = 10000;
        while (not - fits > 1) {
            int d = (fits + not) / 2;
            int[] longer = lengths.clone();
            longer[part] += d;
            if (schedule(s, longer, waits)[2][0] <= end) fits = d; else not = d;
        }
        return fits;
    }

    static int draw(S s) {
        s.z = s.z * 1103515245 + 12345;
        return s.z >>> 8;
    }

    static void addLine(S s, int sort, int said, int was) {
        s.book.add(new int[] {sort, said, was});
        if (s.book.size() > 20) s.book.remove(0);
    }

    /** said, was */
    static int[] work(S s, int sort) {
        int said = Math.min(9999, endSaid(s));
        int[] lengths = new int[s.parts.size()];
        for (int i = 0; i < lengths.length; i++) {
            P p = s.parts.get(i);
            lengths[i] = draw(s) % 10 < p.tail ? 2 * p.guess + 1 : p.guess;
        }
        int was = Math.min(9999, schedule(s, lengths, allWaits(s))[2][0]);
        addLine(s, sort, said, was);
        return new int[] {said, was};
    }

    TreeMap<Integer, Long> spread() {
        TreeMap<Integer, Long> found = new TreeMap<>();
        int n = s.parts.size();
        int[] waits = allWaits(s);
        for (int mask = 0; mask < 1 << n; mask++) {
            long weight = 1;
            int[] lengths = new int[n];
            for (int i = 0; i < n; i++) {
                P p = s.parts.get(i);
                boolean slow = (mask >> i & 1) == 1;
                weight *= slow ? p.tail : 10 - p.tail;
                lengths[i] = slow ? 2 * p.guess + 1 : p.guess;
            }
            if (weight > 0) found.merge(schedule(s, lengths, waits)[2][0], weight, Long::sum);
        }
        return found;
    }

    BigInteger[] lowest(BigInteger above, BigInteger below) {
        BigInteger d = above.gcd(below);
        return new BigInteger[] {above.divide(d), below.divide(d)};
    }

    BigInteger whole() { return BigInteger.TEN.pow(s.parts.size()); }

    int people(int n, int m, int w) {
        int size = s.parts.size();
        int[] says = allSays(s);
        int[] over = new int[size];
        Arrays.fill(over, -1);
        TreeSet<Integer> done = new TreeSet<>();
        for (int week = 0; week < 1000000; week++) {
            boolean again = true;
            while (again) {
                again = false;
                for (int i = 0; i < size; i++) {
                    if (done.contains(i)) continue;
                    if (over[i] >= 0 && over[i] <= week || says[i] == 0 && done.containsAll(s.parts.get(i).ahead)) {
                        done.add(i);
                        again = true;
                    }
                }
            }
            if (done.size() == size) return week;
            if (week >= w && week <= w + 2) continue;
            int there = week >= w + 3 ? n + m : n;
            while (true) {
                int busy = 0;
                for (int i = 0; i < size; i++) if (over[i] > week) busy++;
                if (busy >= there) break;
                int least = -1;
                for (int i = size - 1; i >= 0; i--) {
                    if (over[i] < 0 && !done.contains(i) && done.containsAll(s.parts.get(i).ahead)) least = i;
                }
                if (least < 0) break;
                over[least] = week + says[least];
            }
        }
        throw new IllegalStateException("never all done");
    }

    // ---- texts: a machine with two states and a row of open ( for the FAULT, two stacks for the value

    record Token(String word, int at, int kind) { } // kind 0 letters, 1 digits, 2 sign

    static List<Token> tokens(List<Integer> bytes) {
        StringBuilder b = new StringBuilder();
        for (int c : bytes) b.append((char) c);
        var matcher = java.util.regex.Pattern.compile("[a-z]+|[0-9]+|[^ ]", java.util.regex.Pattern.DOTALL).matcher(b);
        List<Token> found = new ArrayList<>();
        while (matcher.find()) {
            String w = matcher.group();
            char c = w.charAt(0);
            found.add(new Token(w, matcher.start(), c >= 'a' && c <= 'z' ? 0 : c >= '0' && c <= '9' ? 1 : 2));
        }
        return found;
    }

    static String names(int key) { return List.of("gtf", "ngt", "ed").get(key); }

    static int fault(List<Integer> bytes) {
        List<Token> all = tokens(bytes);
        List<boolean[]> compared = new ArrayList<>();
        List<int[]> nots = new ArrayList<>();
        compared.add(new boolean[1]);
        nots.add(new int[1]);
        int key = -1;
        boolean needsPiece = true;
        for (int i = 0; i < all.size(); i++) {
            Token t = all.get(i);
            if (i > 0 && t.kind != 2) {
                Token before = all.get(i - 1);
                if (before.kind != 2 && before.at + before.word.length() == t.at) return t.at;
            }
            if (i == 0) {
                key = List.of("say", "wait", "fine").indexOf(t.word);
                if (key < 0) return t.at;
                continue;
            }
            int level = compared.size() - 1;
            if (needsPiece) {
                if (t.kind == 1 && t.word.length() <= 4
                        || t.kind == 0 && t.word.length() == 1 && names(key).contains(t.word)) {
                    nots.get(level)[0] = 0;
                    needsPiece = false;
                } else if (t.word.equals("!")) {
                    if (nots.stream().mapToInt(x -> x[0]).sum() == 8) return t.at;
                    nots.get(level)[0]++;
                } else if (t.word.equals("(")) {
                    if (level == 8) return t.at;
                    compared.add(new boolean[1]);
                    nots.add(new int[1]);
                } else {
                    return t.at;
                }
            } else if (t.word.equals(")")) {
                if (level == 0) return t.at;
                compared.remove(level);
                nots.remove(level);
                nots.get(level - 1)[0] = 0;
            } else if (t.kind == 2 && "|&".contains(t.word)) {
                compared.get(level)[0] = false;
                needsPiece = true;
            } else if (t.kind == 2 && "<=>".contains(t.word)) {
                if (compared.get(level)[0]) return t.at;
                compared.get(level)[0] = true;
                needsPiece = true;
            } else if (t.kind == 2 && "+-*/".contains(t.word)) {
                needsPiece = true;
            } else {
                return t.at;
            }
        }
        return needsPiece || compared.size() > 1 ? bytes.size() : -1;
    }

    static int strength(String op) {
        return switch (op) {
            case "|" -> 0; case "&" -> 1; case "<", "=", ">" -> 2; case "+", "-" -> 3; case "*", "/" -> 4; case "!" -> 5;
            default -> -1;
        };
    }

    static void reduce(List<Integer> values, List<String> ops) {
        String op = ops.remove(ops.size() - 1);
        int b = values.remove(values.size() - 1);
        if (op.equals("!")) { values.add(b == 0 ? 1 : 0); return; }
        int a = values.remove(values.size() - 1);
        boolean x = a != 0, y = b != 0;
        values.add(switch (op) {
            case "|" -> x | y ? 1 : 0;
            case "&" -> x & y ? 1 : 0;
            case "<" -> a < b ? 1 : 0;
            case "=" -> a == b ? 1 : 0;
            case ">" -> a > b ? 1 : 0;
            case "+" -> a + b;
            case "-" -> a - b;
            case "*" -> a * b;
            default -> b == 0 ? 0 : (int) ((long) a / b);
        });
    }

    static int value(T t, Map<String, Integer> names) {
        List<Integer> values = new ArrayList<>();
        List<String> ops = new ArrayList<>();
        for (String w : t.tokens) {
            if (Character.isDigit(w.charAt(0))) values.add(Integer.parseInt(w));
            else if (names.containsKey(w)) values.add(names.get(w));
            else if (w.equals("(") || w.equals("!")) ops.add(w);
            else if (w.equals(")")) {
                while (!ops.get(ops.size() - 1).equals("(")) reduce(values, ops);
                ops.remove(ops.size() - 1);
            } else {
                while (!ops.isEmpty() && strength(ops.get(ops.size() - 1)) >= strength(w)) reduce(values, ops);
                ops.add(w);
            }
        }
        while (!ops.isEmpty()) reduce(values, ops);
        return values.get(0);
    }

    // ---- the calls

    long call(String name, int... a) {
        switch (name) {
            case "part": {
                if (!in(a[0], 0, 5) || !in(a[1], 0, 99) || !in(a[2], 0, 10) || !in(a[3], 0, 2)) return BAD;
                if (s.parts.size() == 10) return FULL;
                addPart(a[0], a[1], a[2], a[3]);
                return s.parts.size() - 1;
            }
            case "told": {
                if (!isPart(a[0])) return BAD;
                P p = s.parts.get(a[0]);
                int[][] all = schedule(s, allSays(s), allWaits(s));
                return switch (a[1]) {
                    case 0 -> p.kind;
                    case 1 -> p.guess;
                    case 2 -> p.tail;
                    case 3 -> p.sort;
                    case 4 -> p.ahead.stream().mapToInt(i -> 1 << i).sum();
                    case 5 -> says(s, p);
                    case 6 -> waitsFor(s, p);
                    case 7 -> worth(p);
                    case 8 -> all[0][a[0]];
                    case 9 -> all[1][a[0]];
                    case 10 -> slack(s, a[0]);
                    default -> BAD;
                };
            }
            case "as": {
                if (!isPart(a[0]) || !in(a[1], 0, 5)) return BAD;
                return under(s.parts.get(a[0]).kind, a[1]) ? s.parts.get(a[0]).guess : KIND;
            }
            case "turns": {
                if (!isPart(a[0]) || !in(a[1], 0, 5)) return BAD;
                int was = s.parts.get(a[0]).kind;
                s.parts.get(a[0]).kind = a[1];
                return was;
            }
            case "set": {
                if (!isPart(a[0]) || !in(a[1], 1, 3)) return BAD;
                if (!in(a[2], 0, new int[] {0, 99, 10, 2}[a[1]])) return BAD;
                P p = s.parts.get(a[0]);
                int was = new int[] {0, p.guess, p.tail, p.sort}[a[1]];
                if (a[1] == 1) p.guess = a[2];
                if (a[1] == 2) p.tail = a[2];
                if (a[1] == 3) p.sort = a[2];
                return was;
            }
            case "ahead": {
                if (!isPart(a[0]) || !isPart(a[1]) || a[0] >= a[1] || !in(a[2], 0, 1)) return BAD;
                TreeSet<Integer> set = s.parts.get(a[1]).ahead;
                boolean was = a[2] == 1 ? !set.add(a[0]) : set.remove(a[0]);
                return was ? 1 : 0;
            }
            case "book": {
                if (!in(a[0], 0, 2) || !in(a[1], 0, 9999) || !in(a[2], 0, 9999)) return BAD;
                addLine(s, a[0], a[1], a[2]);
                return s.book.size();
            }
            case "line":
                return !in(a[1], 0, 2) ? BAD : !in(a[0], 0, s.book.size() - 1) ? NONE : s.book.get(a[0])[a[1]];
            case "factor":
                return in(a[0], -1, 2) ? factorIn(s, a[0]) : BAD;
            case "deal": {
                if (!in(a[0], 1, 10)) return BAD;
                int came = 0;
                for (int i = 0; i < a[0] && s.parts.size() < 10; i++) {
                    int kind = draw(s) % 6, guess = draw(s) % 20, tail = draw(s) % 11, sort = draw(s) % 3;
                    addPart(kind, guess, tail, sort);
                    came++;
                }
                return came;
            }
            case "seed": {
                int was = s.z;
                s.z = a[0];
                return was;
            }
            case "together": return Arrays.stream(allSays(s)).sum();
            case "end": return endSaid(s);
            case "critical": {
                int set = 0;
                for (int i = 0; i < s.parts.size(); i++) if (slack(s, i) == 0) set += 1 << i;
                return set;
            }
            case "staffed": return in(a[0], 1, 9) ? people(a[0], 0, 500000) : BAD;
            case "more": return in(a[0], 1, 9) && in(a[1], 0, 9) && in(a[2], 0, 999) ? people(a[0], a[1], a[2]) : BAD;
            case "odds": {
                if (!in(a[0], 0, 9999) || !in(a[1], 0, 1)) return BAD;
                long sum = spread().headMap(a[0], true).values().stream().mapToLong(x -> x).sum();
                return lowest(BigInteger.valueOf(sum), whole())[a[1]].longValueExact();
            }
            case "span": {
                if (!in(a[0], 1, 100)) return BAD;
                BigInteger sum = BigInteger.ZERO;
                for (var e : spread().entrySet()) {
                    sum = sum.add(BigInteger.valueOf(e.getValue()));
                    if (sum.multiply(BigInteger.valueOf(100)).compareTo(whole().multiply(BigInteger.valueOf(a[0]))) >= 0) {
                        return e.getKey();
                    }
                }
                throw new IllegalStateException("no span");
            }
            case "mean": {
                if (!in(a[0], 0, 1)) return BAD;
                BigInteger sum = BigInteger.ZERO;
                for (var e : spread().entrySet()) {
                    sum = sum.add(BigInteger.valueOf(e.getKey()).multiply(BigInteger.valueOf(e.getValue())));
                }
                return lowest(sum, whole())[a[0]].longValueExact();
            }
            case "works": {
                if (!in(a[0], 0, 2) || !in(a[1], 1, 40)) return BAD;
                int found = 0;
                for (int i = 0; i < a[1]; i++) {
                    int[] w = work(s, a[0]);
                    if (w[1] <= w[0]) found++;
                }
                return found;
            }
            case "fine": {
                if (!in(a[0], 0, 9999)) return BAD;
                T t = counts(s, 2);
                int e = endSaid(s);
                return t == null ? Math.max(0, e - a[0]) : value(t, Map.of("e", e, "d", a[0]));
            }
            default: return callMore(name, a);
        }
    }

    void addPart(int kind, int guess, int tail, int sort) {
        P p = new P();
        p.kind = kind;
        p.guess = guess;
        p.tail = tail;
        p.sort = sort;
        s.parts.add(p);
    }

    /** A row is a short[] or a Float[] with null for NO NUMBER. */
    static List<Integer> numbersOf(Object row) {
        List<Integer> found = new ArrayList<>();
        if (row instanceof short[] shorts) for (short x : shorts) found.add((int) x);
        if (row instanceof Float[] floats) for (Float x : floats) found.add(x == null ? null : (Integer) (int) (float) x);
        return found;
    }

    static int sizeOf(Object row) { return numbersOf(row).size(); }

    static Object cloned(Object row) {
        return row instanceof short[] shorts ? shorts.clone() : ((Float[]) row).clone();
    }

    private long callMore(String name, int... a) {
        switch (name) {
            case "feed": {
                if (tape.size() > 84) return FULL;
                for (int v : a) for (byte b : java.nio.ByteBuffer.allocate(4).putInt(v).array()) tape.add(b & 255);
                return tape.size();
            }
            case "trim": {
                if (!in(a[0], 0, tape.size())) return BAD;
                tape = new ArrayList<>(tape.subList(0, a[0]));
                return a[0];
            }
            case "text": {
                List<Integer> bytes = tape;
                tape = new ArrayList<>();
                int fault = fault(bytes);
                if (fault >= 0) return -100 - fault;
                if (s.texts.size() == 14) return FULL;
                List<String> words = new ArrayList<>(tokens(bytes).stream().map(Token::word).toList());
                int key = List.of("say", "wait", "fine").indexOf(words.remove(0));
                s.texts.add(new T(key, words));
                return s.texts.size() - 1;
            }
            case "textTold": {
                if (!in(a[0], 0, s.texts.size() - 1) || !in(a[1], 0, 1)) return BAD;
                T t = s.texts.get(a[0]);
                return a[1] == 0 ? t.key : t.tokens.stream().filter(w -> Character.isLetterOrDigit(w.charAt(0))).count();
            }
            case "why":
                return !in(a[0], 0, 2) ? BAD : counts(s, a[0]) == null ? NONE : lastOf(a[0]);
            case "sheet": {
                if (!in(a[0], 0, 3) || !in(a[1], -1, 1)) return BAD;
                if (a[1] == -1) { sheets[a[0]] = null; return 0; }
                if (a[2] > 24) return BAD;
                if (a[2] < 0) return SIZE;
                Float[] floats = new Float[a[2]];
                Arrays.fill(floats, 0f);
                sheets[a[0]] = a[1] == 0 ? new short[a[2]] : floats;
                return a[2];
            }
            case "mark": {
                if (!in(a[0], 0, 3)) return BAD;
                Object row = sheets[a[0]];
                if (row == null) return NOTHING;
                if (!in(a[1], 0, sizeOf(row) - 1)) return INDEX;
                if (row instanceof short[] shorts) {
                    if (a[2] == NONE) return KIND;
                    shorts[a[1]] = (short) a[2];
                } else {
                    if (a[2] != NONE && !in(a[2], -99999, 99999)) return BAD;
                    ((Float[]) row)[a[1]] = a[2] == NONE ? null : (Float) (float) a[2];
                }
                return 1;
            }
            case "pour": {
                if (!in(a[0], 0, 3)) return BAD;
                if (sheets[a[0]] == null) return NOTHING;
                List<Integer> row = numbersOf(sheets[a[0]]);
                int found = 0;
                for (int i = 0; i < row.size() && i < s.parts.size(); i++) {
                    if (row.get(i) == null) continue;
                    int v = hold(row.get(i), 0, 99);
                    if (s.parts.get(i).guess != v) found++;
                    s.parts.get(i).guess = v;
                }
                return found;
            }
            case "table": {
                if (!in(a[0], 0, 3) || !in(a[1], 0, 3)) return BAD;
                if (sheets[a[0]] == null) return NOTHING;
                List<Integer> row = numbersOf(sheets[a[0]]);
                List<Integer> sorted = row.stream().filter(x -> x != null).sorted().toList();
                if (sorted.isEmpty()) return NONE;
                return switch (a[1]) {
                    case 0 -> row.indexOf(sorted.get(0));
                    case 1 -> row.indexOf(sorted.get(sorted.size() - 1));
                    case 2 -> sorted.stream().filter(CARDS::contains).count();
                    default -> sorted.get((sorted.size() - 1) / 2);
                };
            }
            case "copy": {
                if (!in(a[0], 0, 3) || !in(a[2], 0, 3)) return BAD;
                Object from = sheets[a[0]], to = sheets[a[2]];
                if (from == null || to == null) return NOTHING;
                if (from.getClass() != to.getClass()) return KIND;
                if (a[1] < 0 || a[3] < 0 || a[4] < 0) return INDEX;
                if ((long) a[1] + a[4] > sizeOf(from) || (long) a[3] + a[4] > sizeOf(to)) return INDEX;
                Object before = cloned(from);
                for (int i = 0; i < a[4]; i++) {
                    java.lang.reflect.Array.set(to, a[3] + i, java.lang.reflect.Array.get(before, a[1] + i));
                }
                return a[4];
            }
            case "lay": {
                if (!in(a[0], 0, 4) || !in(a[1], 0, 3)) return BAD;
                if (a[1] == 1 && !isPart(a[2])) return BAD;
                if (a[1] == 2 && !in(a[2], 0, 3)) return BAD;
                if (a[1] == 2 && sheets[a[2]] == null) return NOTHING;
                Object held = slots[a[0]];
                slots[a[0]] = switch (a[1]) {
                    case 0 -> null;
                    case 1 -> s.parts.get(a[2]).copied();
                    case 2 -> cloned(sheets[a[2]]);
                    default -> (Integer) a[2];
                };
                return held == null ? 0 : held instanceof P ? 1 : held instanceof Integer ? 3 : 2;
            }
            case "ask": {
                if (!in(a[0], 0, 4) || !in(a[1], 0, 5)) return BAD;
                if (slots[a[0]] == null) return NOTHING;
                return slots[a[0]] instanceof P p && under(p.kind, a[1]) ? worth(p) : KIND;
            }
            case "item": {
                if (!in(a[0], 0, 4)) return BAD;
                Object held = slots[a[0]];
                if (held == null) return NOTHING;
                if (held instanceof P || held instanceof Integer) return KIND;
                List<Integer> row = numbersOf(held);
                if (!in(a[1], 0, row.size() - 1)) return INDEX;
                return row.get(a[1]) == null ? KIND : row.get(a[1]);
            }
            case "rest": {
                if (!in(a[0], 0, 4)) return BAD;
                if (slots[a[0]] == null) return NOTHING;
                if (!(slots[a[0]] instanceof Integer v)) return KIND;
                return a[1] == 0 ? NO : (long) v % a[1];
            }
            case "tell": {
                if (waiting.size() == 60) return FULL;
                waiting.add(a[0]);
                return waiting.size();
            }
            case "check": {
                List<Integer> told = waiting;
                waiting = new ArrayList<>();
                if (!in(a[0], 0, 2) || !in(a[1], 1, 30)) return BAD;
                if (image == null) return NO;
                List<Integer> due = worksTold(a[0], a[1]);
                if (told.equals(due)) return 0;
                int same = 0;
                while (same < told.size() && same < due.size() && told.get(same).equals(due.get(same))) same++;
                return 1 + same;
            }
            case "keep": {
                image = s.copied();
                return s.parts.size();
            }
            case "back": {
                if (image == null) return NO;
                s = image.copied();
                return s.parts.size();
            }
            case "count":
                return switch (a[0]) {
                    case 0 -> s.parts.size();
                    case 1 -> s.book.size();
                    case 2 -> Long.bitCount(call("critical"));
                    case 3 -> s.texts.size();
                    case 4 -> waiting.size();
                    case 5 -> tape.size();
                    case 6 -> s.z;
                    default -> BAD;
                };
            default: throw new IllegalArgumentException(name);
        }
    }

    int lastOf(int key) {
        int found = -1;
        for (int i = 0; i < s.texts.size(); i++) if (s.texts.get(i).key == key) found = i;
        return found;
    }

    List<Integer> worksTold(int sort, int n) {
        S copy = image.copied();
        List<Integer> due = new ArrayList<>();
        for (int i = 0; i < n; i++) {
            due.add(work(copy, sort)[1]);
            due.add(factorIn(copy, -1));
        }
        return due;
    }
}
