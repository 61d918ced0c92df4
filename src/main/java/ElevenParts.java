import java.util.Arrays;

/** How long it will take: parts in a net, what is said of them, and what they take. */
public final class ElevenParts {
    public static final int BAD = -1000000001, NO = -1000000002, FULL = -1000000003, NONE = -1000000005, NOTHING = -1000000011, KIND = -1000000012, INDEX = -1000000013, SIZE = -1000000014;

    private static final int PARTS_MOST = 10, LINES_MOST = 20, TEXTS_MOST = 14;
    private static final int TAPE_MOST = 96, WAITING_MOST = 60;
    private static final int SHEETS = 4, PLACES_MOST = 24, SLOTS = 5;
    private static final int GUESS_MOST = 99, TAIL_MOST = 10, SORT_MOST = 2;
    private static final int SAYS_MOST = 999, WAITS_MOST = 99, WEEK_MOST = 9999, FLOAT_MOST = 99999;

    private static final int PART = 0, SUMMED = 1, LIKE = 2, WISHED = 3, SORTED = 4, CARD = 5;
    /** The KIND right above each KIND. */
    private static final int[] ABOVE = {-1, 0, 0, 1, 2, 0};
    private static final int[] CARDS = {1, 2, 3, 5, 8, 13, 21, 34, 55, 89};

    private static final int SAY = 0, WAIT = 1, FINE = 2, KEYS = 3;
    private static final int HOLDS_NOTHING = 0, HOLDS_PART = 1, HOLDS_SHEET = 2, HOLDS_NUMBER = 3;
    private static final int MISSING = -1, SHORTS = 0, FLOATS = 1;
    private static final int ALL_SORTS = -1;

    /** No THE END with lengths that are SHORT or LONG is later: each PART takes 199 and waits 99 at most. */
    private static final int LATEST = PARTS_MOST * (2 * GUESS_MOST + 1 + WAITS_MOST);
    /** A week that no staffing reaches. */
    private static final int NEVER = 1000000;

    private final Plan plan;
    private final Plan image;
    private final Plan trial;
    private boolean imageKept;
    private final Reckoner reckoner;
    private final Reader reader;
    private final int[] tape;
    private int tapeLength;
    private final int[] waiting;
    private int waitingCount;
    private final Sheet[] sheets;
    private final Slot[] slots;

    public ElevenParts() {
        plan = new Plan();
        image = new Plan();
        trial = new Plan();
        imageKept = false;
        reckoner = new Reckoner();
        reader = new Reader();
        tape = new int[TAPE_MOST];
        tapeLength = 0;
        waiting = new int[WAITING_MOST];
        waitingCount = 0;
        sheets = new Sheet[SHEETS];
        for (int i = 0; i < SHEETS; i++) {
            sheets[i] = new Sheet();
        }
        slots = new Slot[SLOTS];
        for (int i = 0; i < SLOTS; i++) {
            slots[i] = new Slot();
        }
    }

    // ---- parts, the book

    public int part(int kind, int guess, int tail, int sort) {
        if (!isKind(kind) || !within(guess, 0, GUESS_MOST) || !within(tail, 0, TAIL_MOST) || !isSort(sort)) {
            return BAD;
        }
        return plan.addPart(kind, guess, tail, sort);
    }

    public int told(int part, int what) {
        Part p = plan.partAt(part);
        if (p == null) {
            return BAD;
        }
        switch (what) {
            case 0: return p.kind;
            case 1: return p.guess;
            case 2: return p.tail;
            case 3: return p.sort;
            case 4: return p.ahead;
            case 5: return reckoner.saysOf(plan, p);
            case 6: return reckoner.waitsOf(plan, p);
            case 7: return p.worth();
            case 8: return reckoner.beginsAsSaid(plan, part);
            case 9: return reckoner.endsAsSaid(plan, part);
            case 10: return reckoner.slackAsSaid(plan, part);
            default: return BAD;
        }
    }

    public int as(int part, int kind) {
        Part p = plan.partAt(part);
        if (p == null || !isKind(kind)) {
            return BAD;
        }
        return p.isOf(kind) ? p.guess : KIND;
    }

    public int turns(int part, int kind) {
        Part p = plan.partAt(part);
        if (p == null || !isKind(kind)) {
            return BAD;
        }
        int was = p.kind;
        p.kind = kind;
        return was;
    }

    public int set(int part, int what, int v) {
        Part p = plan.partAt(part);
        if (p == null) {
            return BAD;
        }
        int was = BAD;
        if (what == 1 && within(v, 0, GUESS_MOST)) {
            was = p.guess;
            p.guess = v;
        } else if (what == 2 && within(v, 0, TAIL_MOST)) {
            was = p.tail;
            p.tail = v;
        } else if (what == 3 && isSort(v)) {
            was = p.sort;
            p.sort = v;
        }
        return was;
    }

    public int ahead(int part, int other, int v) {
        Part behind = plan.partAt(other);
        if (plan.partAt(part) == null || behind == null || part >= other || !within(v, 0, 1)) {
            return BAD;
        }
        int was = (behind.ahead >> part) & 1;
        behind.ahead = (behind.ahead & ~(1 << part)) | (v << part);
        return was;
    }

    public int book(int sort, int said, int was) {
        if (!isSort(sort) || !within(said, 0, WEEK_MOST) || !within(was, 0, WEEK_MOST)) {
            return BAD;
        }
        plan.book.addLine(sort, said, was);
        return plan.book.size;
    }

    public int line(int i, int what) {
        if (!within(what, 0, 2)) {
            return BAD;
        }
        return plan.book.lineTold(i, what);
    }

    public int factor(int sort) {
        if (sort != ALL_SORTS && !isSort(sort)) {
            return BAD;
        }
        return plan.book.factorOf(sort);
    }

    public int deal(int n) {
        if (!within(n, 1, PARTS_MOST)) {
            return BAD;
        }
        int came = Math.min(n, PARTS_MOST - plan.size);
        for (int i = 0; i < came; i++) {
            plan.drawPart();
        }
        return came;
    }

    public int seed(int v) {
        int was = plan.z;
        plan.z = v;
        return was;
    }

    // ---- what is said

    public int together() {
        return reckoner.sumOfSays(plan);
    }

    public int end() {
        return reckoner.theEndAsSaid(plan);
    }

    public int critical() {
        return reckoner.criticalSet(plan);
    }

    public int staffed(int n) {
        if (!within(n, 1, 9)) {
            return BAD;
        }
        return reckoner.weekAllDone(plan, n, 0, NEVER);
    }

    public int more(int n, int m, int w) {
        if (!within(n, 1, 9) || !within(m, 0, 9) || !within(w, 0, 999)) {
            return BAD;
        }
        return reckoner.weekAllDone(plan, n, m, w);
    }

    // ---- what it is

    public long odds(int t, int part) {
        if (!within(t, 0, WEEK_MOST) || !within(part, 0, 1)) {
            return BAD;
        }
        return reducedSide(reckoner.chancesUpTo(plan, t), reckoner.allChances(plan), part);
    }

    public int span(int p) {
        if (!within(p, 1, 100)) {
            return BAD;
        }
        return reckoner.spanOf(plan, p);
    }

    public long mean(int part) {
        if (!within(part, 0, 1)) {
            return BAD;
        }
        return reducedSide(reckoner.weighedEnds(plan), reckoner.allChances(plan), part);
    }

    public int works(int sort, int n) {
        if (!isSort(sort) || !within(n, 1, 40)) {
            return BAD;
        }
        int kept = 0;
        for (int i = 0; i < n; i++) {
            reckoner.doWork(plan, sort);
            if (reckoner.was <= reckoner.said) {
                kept++;
            }
        }
        return kept;
    }

    public int fine(int d) {
        if (!within(d, 0, WEEK_MOST)) {
            return BAD;
        }
        return reckoner.fineOf(plan, d);
    }

    // ---- texts

    public int feed(int a, int b, int c) {
        if (tapeLength + 12 > TAPE_MOST) {
            return FULL;
        }
        feedFour(a);
        feedFour(b);
        feedFour(c);
        return tapeLength;
    }

    public int trim(int n) {
        if (!within(n, 0, tapeLength)) {
            return BAD;
        }
        tapeLength = n;
        return n;
    }

    public int text() {
        int length = tapeLength;
        tapeLength = 0;
        int fault = reader.readTape(tape, length);
        if (fault >= 0) {
            return -100 - fault;
        }
        // A TEXT is made only where it has a place: what a run makes is counted.
        if (plan.textCount >= TEXTS_MOST) {
            return FULL;
        }
        return plan.addText(reader.textRead());
    }

    public int textTold(int text, int what) {
        Text told = plan.textAt(text);
        if (told == null || !within(what, 0, 1)) {
            return BAD;
        }
        return what == 0 ? told.key : told.operands;
    }

    public int why(int key) {
        if (!within(key, SAY, FINE)) {
            return BAD;
        }
        int number = plan.counting[key];
        return number < 0 ? NONE : number;
    }

    // ---- sheets, slots

    public int sheet(int sheet, int sort, int n) {
        Sheet row = sheetAt(sheet);
        if (row == null || !within(sort, MISSING, FLOATS)) {
            return BAD;
        }
        if (sort == MISSING) {
            row.becomeRow(MISSING, 0);
            return 0;
        }
        if (n > PLACES_MOST) {
            return BAD;
        }
        if (n < 0) {
            return SIZE;
        }
        row.becomeRow(sort, n);
        return n;
    }

    public int mark(int sheet, int place, int v) {
        Sheet row = sheetAt(sheet);
        if (row == null) {
            return BAD;
        }
        if (row.sort == MISSING) {
            return NOTHING;
        }
        if (!row.hasPlace(place)) {
            return INDEX;
        }
        if (row.sort == SHORTS) {
            if (v == NONE) {
                return KIND;
            }
            row.cells[place] = (short) v;
            return 1;
        }
        if (v != NONE && !within(v, -FLOAT_MOST, FLOAT_MOST)) {
            return BAD;
        }
        row.cells[place] = v;
        return 1;
    }

    public int pour(int sheet) {
        Sheet row = sheetAt(sheet);
        if (row == null) {
            return BAD;
        }
        if (row.sort == MISSING) {
            return NOTHING;
        }
        int otherwise = 0;
        int many = Math.min(plan.size, row.size);
        for (int k = 0; k < many; k++) {
            Part p = plan.parts[k];
            int guess = row.isNumber(k) ? held(row.cells[k], 0, GUESS_MOST) : p.guess;
            if (guess != p.guess) {
                p.guess = guess;
                otherwise++;
            }
        }
        return otherwise;
    }

    public int table(int sheet, int what) {
        Sheet row = sheetAt(sheet);
        if (row == null || !within(what, 0, 3)) {
            return BAD;
        }
        if (row.sort == MISSING) {
            return NOTHING;
        }
        if (row.numbers() == 0) {
            return NONE;
        }
        switch (what) {
            case 0: return row.placeOfLeast();
            case 1: return row.placeOfGreatest();
            case 2: return row.cards();
            default: return row.middle();
        }
    }

    public int copy(int from, int place, int to, int at, int many) {
        Sheet source = sheetAt(from);
        Sheet target = sheetAt(to);
        if (source == null || target == null) {
            return BAD;
        }
        if (source.sort == MISSING || target.sort == MISSING) {
            return NOTHING;
        }
        if (source.sort != target.sort) {
            return KIND;
        }
        if (!source.hasPlaces(place, many) || !target.hasPlaces(at, many)) {
            return INDEX;
        }
        System.arraycopy(source.cells, place, target.cells, at, many);
        return many;
    }

    public int lay(int slot, int thing, int k) {
        Slot place = slotAt(slot);
        if (place == null || !within(thing, HOLDS_NOTHING, HOLDS_NUMBER)) {
            return BAD;
        }
        if (thing == HOLDS_PART) {
            Part p = plan.partAt(k);
            if (p == null) {
                return BAD;
            }
            place.part.takeFrom(p);
        } else if (thing == HOLDS_SHEET) {
            Sheet row = sheetAt(k);
            if (row == null) {
                return BAD;
            }
            if (row.sort == MISSING) {
                return NOTHING;
            }
            place.row.takeFrom(row);
        } else if (thing == HOLDS_NUMBER) {
            place.number = k;
        }
        int before = place.holds;
        place.holds = thing;
        return before;
    }

    public int ask(int slot, int kind) {
        Slot place = slotAt(slot);
        if (place == null || !isKind(kind)) {
            return BAD;
        }
        if (place.holds == HOLDS_NOTHING) {
            return NOTHING;
        }
        if (place.holds != HOLDS_PART || !place.part.isOf(kind)) {
            return KIND;
        }
        return place.part.worth();
    }

    public int item(int slot, int place) {
        Slot holder = slotAt(slot);
        if (holder == null) {
            return BAD;
        }
        if (holder.holds == HOLDS_NOTHING) {
            return NOTHING;
        }
        if (holder.holds != HOLDS_SHEET) {
            return KIND;
        }
        if (!holder.row.hasPlace(place)) {
            return INDEX;
        }
        return holder.row.isNumber(place) ? holder.row.cells[place] : KIND;
    }

    public int rest(int slot, int n) {
        Slot place = slotAt(slot);
        if (place == null) {
            return BAD;
        }
        if (place.holds == HOLDS_NOTHING) {
            return NOTHING;
        }
        if (place.holds != HOLDS_NUMBER) {
            return KIND;
        }
        return n == 0 ? NO : place.number % n;
    }

    // ---- rows, images

    public int tell(int v) {
        if (waitingCount >= WAITING_MOST) {
            return FULL;
        }
        waiting[waitingCount] = v;
        waitingCount++;
        return waitingCount;
    }

    public int check(int sort, int n) {
        int told = waitingCount;
        waitingCount = 0;
        if (!isSort(sort) || !within(n, 1, 30)) {
            return BAD;
        }
        if (!imageKept) {
            return NO;
        }
        trial.takeFrom(image);
        for (int i = 0; i < n; i++) {
            reckoner.doWork(trial, sort);
            if (!isTold(2 * i, told, reckoner.was)) {
                return 1 + 2 * i;
            }
            if (!isTold(2 * i + 1, told, trial.book.factorOf(ALL_SORTS))) {
                return 2 + 2 * i;
            }
        }
        return told > 2 * n ? 1 + 2 * n : 0;
    }

    public int keep() {
        image.takeFrom(plan);
        imageKept = true;
        return plan.size;
    }

    public int back() {
        if (!imageKept) {
            return NO;
        }
        plan.takeFrom(image);
        return plan.size;
    }

    public int count(int what) {
        switch (what) {
            case 0: return plan.size;
            case 1: return plan.book.size;
            case 2: return Integer.bitCount(reckoner.criticalSet(plan));
            case 3: return plan.textCount;
            case 4: return waitingCount;
            case 5: return tapeLength;
            case 6: return plan.z;
            default: return BAD;
        }
    }

    // ---- what the calls share

    private static boolean within(int v, int least, int most) {
        return v >= least && v <= most;
    }

    private static int held(int v, int least, int most) {
        return v < least ? least : v > most ? most : v;
    }

    private static boolean isKind(int kind) {
        return within(kind, PART, CARD);
    }

    private static boolean isSort(int sort) {
        return within(sort, 0, SORT_MOST);
    }

    private Sheet sheetAt(int i) {
        return within(i, 0, SHEETS - 1) ? sheets[i] : null;
    }

    private Slot slotAt(int i) {
        return within(i, 0, SLOTS - 1) ? slots[i] : null;
    }

    private boolean isTold(int i, int told, int v) {
        return i < told && i < WAITING_MOST && waiting[i] == v;
    }

    private void feedFour(int v) {
        for (int shift = 24; shift >= 0 && tapeLength < TAPE_MOST; shift -= 8) {
            tape[tapeLength] = (v >>> shift) & 255;
            tapeLength++;
        }
    }

    /** The number above (0) or below (1) the line, in lowest terms. */
    private static long reducedSide(long above, long below, int side) {
        long divisor = commonDivisor(above, below);
        if (divisor <= 0) {
            return BAD;
        }
        return (side == 0 ? above : below) / divisor;
    }

    private static long commonDivisor(long a, long b) {
        long greater = a;
        long lesser = b;
        // Euclid needs fewer than 100 steps for any two longs.
        for (int step = 0; step < 100 && lesser != 0; step++) {
            long left = greater % lesser;
            greater = lesser;
            lesser = left;
        }
        return greater;
    }

    /** A PART, in the net or in a SLOT. */
    private static final class Part {
        int kind;
        int guess;
        int tail;
        int sort;
        int ahead;

        void takeFrom(Part other) {
            kind = other.kind;
            guess = other.guess;
            tail = other.tail;
            sort = other.sort;
            ahead = other.ahead;
        }

        /** Whether it is of that KIND, or of one under it. */
        boolean isOf(int wanted) {
            int at = kind;
            for (int step = 0; step < ABOVE.length && at >= 0 && at < ABOVE.length; step++) {
                if (at == wanted) {
                    return true;
                }
                at = ABOVE[at];
            }
            return false;
        }

        int worth() {
            switch (kind) {
                case SUMMED: return guess + tail;
                case WISHED: return 2 * (guess + tail);
                case LIKE: return 50 - guess;
                case SORTED: return 50 - guess + sort;
                case CARD: return 13;
                default: return guess;
            }
        }

        int lengthShort() {
            return guess;
        }

        int lengthLong() {
            return 2 * guess + 1;
        }
    }

    /** THE BOOK: its LINES, the oldest first. */
    private static final class Book {
        final int[] sorts = new int[LINES_MOST];
        final int[] saids = new int[LINES_MOST];
        final int[] weres = new int[LINES_MOST];
        int size;

        void addLine(int sort, int said, int was) {
            if (size >= LINES_MOST) {
                System.arraycopy(sorts, 1, sorts, 0, LINES_MOST - 1);
                System.arraycopy(saids, 1, saids, 0, LINES_MOST - 1);
                System.arraycopy(weres, 1, weres, 0, LINES_MOST - 1);
                size = LINES_MOST - 1;
            }
            sorts[size] = sort;
            saids[size] = said;
            weres[size] = was;
            size++;
        }

        int lineTold(int i, int what) {
            if (i < 0 || i >= size || i >= LINES_MOST) {
                return NONE;
            }
            return what == 0 ? sorts[i] : what == 1 ? saids[i] : weres[i];
        }

        int factorOf(int sort) {
            int said = 0;
            int was = 0;
            for (int i = 0; i < size; i++) {
                if (sort == ALL_SORTS || sort == sorts[i]) {
                    said += saids[i];
                    was += weres[i];
                }
            }
            return said == 0 ? 100 : held(100 * was / said, 1, 999);
        }

        void takeFrom(Book other) {
            size = other.size;
            System.arraycopy(other.sorts, 0, sorts, 0, LINES_MOST);
            System.arraycopy(other.saids, 0, saids, 0, LINES_MOST);
            System.arraycopy(other.weres, 0, weres, 0, LINES_MOST);
        }
    }

    /** All that an IMAGE keeps: PARTS, THE BOOK, TEXTS, z. */
    private static final class Plan {
        final Part[] parts = new Part[PARTS_MOST];
        int size;
        final Book book = new Book();
        // TEXTS never change once told, so that images may share them.
        final Text[] texts = new Text[TEXTS_MOST];
        int textCount;
        /** Of each KEY the number of the TEXT that counts, or -1. */
        final int[] counting = new int[KEYS];
        int z = 1;

        Plan() {
            for (int i = 0; i < PARTS_MOST; i++) {
                parts[i] = new Part();
            }
            Arrays.fill(counting, -1);
        }

        Part partAt(int i) {
            return i >= 0 && i < size && i < PARTS_MOST ? parts[i] : null;
        }

        Text textAt(int i) {
            return i >= 0 && i < textCount && i < TEXTS_MOST ? texts[i] : null;
        }

        int addPart(int kind, int guess, int tail, int sort) {
            if (size >= PARTS_MOST) {
                return FULL;
            }
            Part p = parts[size];
            p.kind = kind;
            p.guess = guess;
            p.tail = tail;
            p.sort = sort;
            p.ahead = 0;
            size++;
            return size - 1;
        }

        int addText(Text added) {
            if (textCount >= TEXTS_MOST) {
                return FULL;
            }
            texts[textCount] = added;
            if (added.key >= 0 && added.key < KEYS) {
                counting[added.key] = textCount;
            }
            textCount++;
            return textCount - 1;
        }

        Text textThatCounts(int key) {
            return key >= 0 && key < KEYS ? textAt(counting[key]) : null;
        }

        int draw() {
            z = z * 1103515245 + 12345;
            return z >>> 8;
        }

        void drawPart() {
            int kind = draw() % 6;
            int guess = draw() % 20;
            int tail = draw() % 11;
            int sort = draw() % 3;
            addPart(kind, guess, tail, sort);
        }

        void takeFrom(Plan other) {
            size = other.size;
            for (int i = 0; i < PARTS_MOST; i++) {
                parts[i].takeFrom(other.parts[i]);
            }
            book.takeFrom(other.book);
            textCount = other.textCount;
            for (int i = 0; i < TEXTS_MOST; i++) {
                texts[i] = other.texts[i];
            }
            System.arraycopy(other.counting, 0, counting, 0, KEYS);
            z = other.z;
        }
    }

    /**
     * A TEXT as it is worked out: a row with operands ahead of what works on them.
     * A NUMBER stands as it is, the NAMES of its KEY as -1, -2, -3, a sign as its byte below 0.
     */
    private static final class Text {
        final int key;
        final int operands;
        final int[] code;

        Text(int key, int operands, int[] code) {
            this.key = key;
            this.operands = operands;
            this.code = code;
        }
    }

    /** Reads THE TAPE as a TEXT, or finds its FAULT. */
    private static final class Reader {
        private static final int AT_END = 0, AT_LETTERS = 1, AT_NUMBER = 2, AT_SIGN = 3, AT_WRONG = 4;
        private static final int PIECE_LEVEL = 5, TEST_LEVEL = 2;
        private static final int OPEN_MOST = 8, DIGITS_MOST = 4;

        private final int[] bytes = new int[TAPE_MOST];
        private int length;
        private final int[] code = new int[TAPE_MOST];
        private int codeLength;
        private int key;
        private int operands;
        private int fault;
        // The word or sign that is looked at: from start to ahead of stop.
        private int sight;
        private int start;
        private int stop;

        /** The place of the FAULT, or -1. */
        int readTape(int[] tape, int tapeLength) {
            length = Math.max(0, Math.min(tapeLength, TAPE_MOST));
            System.arraycopy(tape, 0, bytes, 0, Math.min(length, tape.length));
            codeLength = 0;
            operands = 0;
            fault = -1;
            sight = AT_END;
            stop = 0;
            lookOn();
            key = keyInSight();
            if (key < 0) {
                return start;
            }
            lookOn();
            readLevel(0, 0, 0);
            if (fault < 0 && sight != AT_END) {
                fault = start;
            }
            return fault;
        }

        Text textRead() {
            return new Text(key, operands, Arrays.copyOf(code, codeLength));
        }

        private int byteAt(int place) {
            return place >= 0 && place < length && place < TAPE_MOST ? bytes[place] : -1;
        }

        private static boolean isLetter(int b) {
            return b >= 'a' && b <= 'z';
        }

        private static boolean isDigit(int b) {
            return b >= '0' && b <= '9';
        }

        private void lookOn() {
            boolean wordBefore = sight == AT_LETTERS || sight == AT_NUMBER;
            int before = stop;
            start = stop;
            while (start < length && byteAt(start) == ' ') {
                start++;
            }
            stop = start;
            if (start >= length) {
                sight = AT_END;
                return;
            }
            if (isLetter(byteAt(start))) {
                sight = AT_LETTERS;
                while (stop < length && isLetter(byteAt(stop))) {
                    stop++;
                }
            } else if (isDigit(byteAt(start))) {
                sight = AT_NUMBER;
                while (stop < length && isDigit(byteAt(stop))) {
                    stop++;
                }
            } else {
                sight = AT_SIGN;
                stop++;
            }
            boolean needsBlank = wordBefore && start == before && sight != AT_SIGN;
            boolean tooLong = sight == AT_NUMBER && stop - start > DIGITS_MOST;
            if (needsBlank || tooLong) {
                sight = AT_WRONG;
            }
        }

        private boolean isWord(String word) {
            if (sight != AT_LETTERS || stop - start != word.length()) {
                return false;
            }
            for (int i = 0; i < word.length(); i++) {
                if (byteAt(start + i) != word.charAt(i)) {
                    return false;
                }
            }
            return true;
        }

        private int keyInSight() {
            return isWord("say") ? SAY : isWord("wait") ? WAIT : isWord("fine") ? FINE : -1;
        }

        /** The number of the NAME among those of the KEY, or -1. */
        private int nameInSight() {
            if (sight != AT_LETTERS || stop - start != 1) {
                return -1;
            }
            String names = key == SAY ? "gtf" : key == WAIT ? "ngt" : "ed";
            return names.indexOf((char) byteAt(start));
        }

        private int numberInSight() {
            int number = 0;
            for (int i = start; i < stop; i++) {
                number = 10 * number + byteAt(i) - '0';
            }
            return number;
        }

        private boolean isSign(int sign) {
            return sight == AT_SIGN && byteAt(start) == sign;
        }

        private boolean isSignOf(int level) {
            switch (level) {
                case 0: return isSign('|');
                case 1: return isSign('&');
                case TEST_LEVEL: return isSign('<') || isSign('=') || isSign('>');
                case 3: return isSign('+') || isSign('-');
                case 4: return isSign('*') || isSign('/');
                default: return false;
            }
        }

        private void put(int codeItem) {
            if (codeLength < TAPE_MOST) {
                code[codeLength] = codeItem;
                codeLength++;
            }
        }

        private void failHere() {
            if (fault < 0) {
                fault = start;
            }
        }

        /** OR, AND, TEST, SUM, TERM are levels 0 to 4; the open ( and ! are carried along. */
        private void readLevel(int level, int parens, int nots) {
            if (level >= PIECE_LEVEL) {
                readPiece(parens, nots);
                return;
            }
            readLevel(level + 1, parens, nots);
            for (int i = 0; i < TAPE_MOST && fault < 0 && isSignOf(level); i++) {
                int sign = byteAt(start);
                lookOn();
                readLevel(level + 1, parens, nots);
                put(-sign);
                if (level == TEST_LEVEL) {
                    return;
                }
            }
        }

        private void readPiece(int parens, int nots) {
            if (sight == AT_NUMBER) {
                readOperand(numberInSight());
            } else if (nameInSight() >= 0) {
                readOperand(-1 - nameInSight());
            } else if (isSign('!') && nots < OPEN_MOST) {
                lookOn();
                readPiece(parens, nots + 1);
                put(-'!');
            } else if (isSign('(') && parens < OPEN_MOST) {
                lookOn();
                readLevel(0, parens + 1, nots);
                if (fault < 0 && isSign(')')) {
                    lookOn();
                } else {
                    failHere();
                }
            } else {
                failHere();
            }
        }

        private void readOperand(int codeItem) {
            put(codeItem);
            operands++;
            lookOn();
        }
    }

    /** Reckons with a Plan; its rows are used again by every call. */
    private static final class Reckoner {
        private final int[] lengths = new int[PARTS_MOST];
        private final int[] waits = new int[PARTS_MOST];
        private final int[] begins = new int[PARTS_MOST];
        private final int[] ends = new int[PARTS_MOST];
        /** The longest way from the ENDS of a PART to the ENDS of one behind it. */
        private final int[] ways = new int[PARTS_MOST];
        /** The week in which a PART that was begun is over. */
        private final int[] overs = new int[PARTS_MOST];
        private final int[] stack = new int[TAPE_MOST];
        /** Of each week how many of the 10 to the PARTS chances have THE END in it. */
        private final long[] chances = new long[LATEST + 1];
        int said;
        int was;

        // -- texts, worked out

        private int valueOf(Text text, int first, int second, int third) {
            int top = 0;
            for (int i = 0; i < text.code.length; i++) {
                int c = text.code[i];
                if (c >= -3) {
                    if (top < TAPE_MOST) {
                        stack[top] = c >= 0 ? c : c == -1 ? first : c == -2 ? second : third;
                        top++;
                    }
                } else if (c == -'!') {
                    if (top >= 1) {
                        stack[top - 1] = stack[top - 1] == 0 ? 1 : 0;
                    }
                } else if (top >= 2) {
                    top--;
                    stack[top - 1] = joined(-c, stack[top - 1], stack[top]);
                }
            }
            return top >= 1 ? stack[0] : 0;
        }

        private static int joined(int sign, int a, int b) {
            switch (sign) {
                case '|': return a != 0 || b != 0 ? 1 : 0;
                case '&': return a != 0 && b != 0 ? 1 : 0;
                case '<': return a < b ? 1 : 0;
                case '=': return a == b ? 1 : 0;
                case '>': return a > b ? 1 : 0;
                case '+': return a + b;
                case '-': return a - b;
                case '*': return a * b;
                default: return b == 0 ? 0 : a / b;
            }
        }

        // -- what is said of one PART

        /** What one of KIND PART says. */
        private int thoughtOf(Plan plan, Part p) {
            Text say = plan.textThatCounts(SAY);
            if (say == null) {
                return p.guess;
            }
            return held(valueOf(say, p.guess, p.tail, plan.book.factorOf(ALL_SORTS)), 0, SAYS_MOST);
        }

        int saysOf(Plan plan, Part p) {
            int thought = thoughtOf(plan, p);
            int summed = Math.min(SAYS_MOST, thought + p.tail);
            switch (p.kind) {
                case SUMMED: return summed;
                case WISHED: return 2 * summed / 3;
                case LIKE: return Math.min(SAYS_MOST, thought * plan.book.factorOf(ALL_SORTS) / 100);
                case SORTED: return Math.min(SAYS_MOST, thought * plan.book.factorOf(p.sort) / 100);
                case CARD: return cardFor(thought);
                default: return thought;
            }
        }

        private static int cardFor(int thought) {
            for (int i = 0; i < CARDS.length; i++) {
                if (CARDS[i] >= thought) {
                    return CARDS[i];
                }
            }
            return CARDS[CARDS.length - 1];
        }

        int waitsOf(Plan plan, Part p) {
            Text wait = plan.textThatCounts(WAIT);
            if (wait == null) {
                return 0;
            }
            return held(valueOf(wait, Integer.bitCount(p.ahead), p.guess, p.tail), 0, WAITS_MOST);
        }

        // -- the net

        private int beginOf(Plan plan, int k) {
            int ahead = plan.parts[k].ahead;
            int latest = 0;
            for (int i = 0; i < k; i++) {
                if (((ahead >> i) & 1) != 0) {
                    latest = Math.max(latest, ends[i]);
                }
            }
            return latest + waits[k];
        }

        /** THE END with the lengths and waits that stand in the rows. */
        private int theEnd(Plan plan) {
            int latest = 0;
            for (int k = 0; k < plan.size; k++) {
                begins[k] = beginOf(plan, k);
                ends[k] = begins[k] + lengths[k];
                latest = Math.max(latest, ends[k]);
            }
            return latest;
        }

        int theEndAsSaid(Plan plan) {
            for (int k = 0; k < plan.size; k++) {
                lengths[k] = saysOf(plan, plan.parts[k]);
                waits[k] = waitsOf(plan, plan.parts[k]);
            }
            return theEnd(plan);
        }

        int beginsAsSaid(Plan plan, int k) {
            theEndAsSaid(plan);
            return begins[k];
        }

        int endsAsSaid(Plan plan, int k) {
            theEndAsSaid(plan);
            return ends[k];
        }

        private void fillWays(Plan plan) {
            for (int k = plan.size - 1; k >= 0; k--) {
                ways[k] = 0;
                for (int i = k + 1; i < plan.size; i++) {
                    if (((plan.parts[i].ahead >> k) & 1) != 0) {
                        ways[k] = Math.max(ways[k], waits[i] + lengths[i] + ways[i]);
                    }
                }
            }
        }

        int slackAsSaid(Plan plan, int k) {
            int latest = theEndAsSaid(plan);
            fillWays(plan);
            return latest - ends[k] - ways[k];
        }

        int criticalSet(Plan plan) {
            int latest = theEndAsSaid(plan);
            fillWays(plan);
            int found = 0;
            for (int k = 0; k < plan.size; k++) {
                if (ends[k] + ways[k] == latest) {
                    found |= 1 << k;
                }
            }
            return found;
        }

        int sumOfSays(Plan plan) {
            int sum = 0;
            for (int k = 0; k < plan.size; k++) {
                sum += saysOf(plan, plan.parts[k]);
            }
            return sum;
        }

        int fineOf(Plan plan, int week) {
            int latest = theEndAsSaid(plan);
            Text law = plan.textThatCounts(FINE);
            return law == null ? Math.max(0, latest - week) : valueOf(law, latest, week, 0);
        }

        // -- people

        /** STAFFED by so many, with more of them called in a week (NEVER: in none). */
        int weekAllDone(Plan plan, int people, int more, int called) {
            for (int k = 0; k < plan.size; k++) {
                lengths[k] = saysOf(plan, plan.parts[k]);
            }
            int all = (1 << plan.size) - 1;
            int begun = 0;
            int done = 0;
            int week = 0;
            int helpFrom = called + 3;
            // Nothing comes about but when a PART is over or help begins: some twelve rounds.
            for (int round = 0; round < 4 * PARTS_MOST; round++) {
                done = doneIn(plan, week, begun, done);
                if (done == all) {
                    return week;
                }
                if (week < called) {
                    begun = begunIn(plan, week, begun, done, people);
                } else if (week >= helpFrom) {
                    begun = begunIn(plan, week, begun, done, people + more);
                }
                week = nextWeek(plan, week, begun & ~done, helpFrom);
            }
            return week;
        }

        private int doneIn(Plan plan, int week, int begun, int doneBefore) {
            int done = doneBefore;
            for (int k = 0; k < plan.size; k++) {
                boolean over = ((begun >> k) & 1) != 0 && overs[k] <= week;
                boolean byItself = lengths[k] == 0 && (plan.parts[k].ahead & ~done) == 0;
                if (over || byItself) {
                    done |= 1 << k;
                }
            }
            return done;
        }

        private int begunIn(Plan plan, int week, int begunBefore, int done, int people) {
            int begun = begunBefore;
            int free = people - Integer.bitCount(begun & ~done);
            for (int k = 0; k < plan.size && free > 0; k++) {
                boolean open = (((begun | done) >> k) & 1) == 0;
                if (open && (plan.parts[k].ahead & ~done) == 0) {
                    overs[k] = week + lengths[k];
                    begun |= 1 << k;
                    free--;
                }
            }
            return begun;
        }

        private int nextWeek(Plan plan, int week, int running, int helpFrom) {
            int next = helpFrom > week ? helpFrom : NEVER;
            for (int k = 0; k < plan.size; k++) {
                if (((running >> k) & 1) != 0) {
                    next = Math.min(next, overs[k]);
                }
            }
            return next;
        }

        // -- chances

        private void fillChances(Plan plan) {
            Arrays.fill(chances, 0L);
            for (int k = 0; k < plan.size; k++) {
                waits[k] = waitsOf(plan, plan.parts[k]);
            }
            spread(this, plan, 0, 0, 1L);
        }

        /** Each way for the PARTS from k on, with the latest ENDS and the weight of those ahead. */
        private static void spread(Reckoner rows, Plan plan, int k, int latest, long weight) {
            if (k >= plan.size) {
                if (latest >= 0 && latest <= LATEST) {
                    rows.chances[latest] += weight;
                }
                return;
            }
            Part p = plan.parts[k];
            int begin = rows.beginOf(plan, k);
            if (p.tail < TAIL_MOST) {
                rows.ends[k] = begin + p.lengthShort();
                spread(rows, plan, k + 1, Math.max(latest, rows.ends[k]), weight * (TAIL_MOST - p.tail));
            }
            if (p.tail > 0) {
                rows.ends[k] = begin + p.lengthLong();
                spread(rows, plan, k + 1, Math.max(latest, rows.ends[k]), weight * p.tail);
            }
        }

        long allChances(Plan plan) {
            long all = 1;
            for (int k = 0; k < plan.size; k++) {
                all *= TAIL_MOST;
            }
            return all;
        }

        long chancesUpTo(Plan plan, int week) {
            fillChances(plan);
            long sum = 0;
            for (int i = 0; i <= week && i <= LATEST; i++) {
                sum += chances[i];
            }
            return sum;
        }

        int spanOf(Plan plan, int hundredths) {
            fillChances(plan);
            long wanted = allChances(plan) * hundredths;
            long sum = 0;
            for (int i = 0; i <= LATEST; i++) {
                sum += chances[i];
                if (100 * sum >= wanted) {
                    return i;
                }
            }
            return LATEST;
        }

        long weighedEnds(Plan plan) {
            fillChances(plan);
            long sum = 0;
            for (int i = 0; i <= LATEST; i++) {
                sum += chances[i] * i;
            }
            return sum;
        }

        /** A WORK; SAID and WAS stand in the fields then. */
        void doWork(Plan plan, int sort) {
            said = Math.min(WEEK_MOST, theEndAsSaid(plan));
            for (int k = 0; k < plan.size; k++) {
                Part p = plan.parts[k];
                lengths[k] = plan.draw() % 10 < p.tail ? p.lengthLong() : p.lengthShort();
            }
            was = Math.min(WEEK_MOST, theEnd(plan));
            plan.book.addLine(sort, said, was);
        }
    }

    /** A SHEET; floats are whole and small, so that ints hold them, and NONE stands for NO NUMBER. */
    private static final class Sheet {
        final int[] cells = new int[PLACES_MOST];
        int sort = MISSING;
        int size;

        void becomeRow(int newSort, int newSize) {
            sort = newSort;
            size = newSize;
            Arrays.fill(cells, 0);
        }

        void takeFrom(Sheet other) {
            sort = other.sort;
            size = other.size;
            System.arraycopy(other.cells, 0, cells, 0, PLACES_MOST);
        }

        boolean hasPlace(int place) {
            return place >= 0 && place < size && place < PLACES_MOST;
        }

        boolean hasPlaces(int from, int many) {
            return from >= 0 && many >= 0 && from <= size && many <= size - from;
        }

        boolean isNumber(int place) {
            return hasPlace(place) && cells[place] != NONE;
        }

        int numbers() {
            int found = 0;
            for (int i = 0; i < size; i++) {
                if (isNumber(i)) {
                    found++;
                }
            }
            return found;
        }

        int placeOfLeast() {
            int best = -1;
            for (int i = 0; i < size; i++) {
                if (isNumber(i) && (best < 0 || cells[i] < cells[best])) {
                    best = i;
                }
            }
            return best;
        }

        int placeOfGreatest() {
            int best = -1;
            for (int i = 0; i < size; i++) {
                if (isNumber(i) && (best < 0 || cells[i] > cells[best])) {
                    best = i;
                }
            }
            return best;
        }

        int cards() {
            int found = 0;
            for (int i = 0; i < size; i++) {
                if (isNumber(i) && isCard(cells[i])) {
                    found++;
                }
            }
            return found;
        }

        private static boolean isCard(int v) {
            for (int i = 0; i < CARDS.length; i++) {
                if (CARDS[i] == v) {
                    return true;
                }
            }
            return false;
        }

        /** The number with so many less ones, and equal ones, that it stands in the middle. */
        int middle() {
            int wanted = (numbers() - 1) / 2;
            for (int i = 0; i < size; i++) {
                if (isNumber(i)) {
                    int less = numbersBelow(cells[i]);
                    if (less <= wanted && wanted < numbersBelow(cells[i] + 1)) {
                        return cells[i];
                    }
                }
            }
            return NONE;
        }

        private int numbersBelow(int v) {
            int found = 0;
            for (int i = 0; i < size; i++) {
                if (isNumber(i) && cells[i] < v) {
                    found++;
                }
            }
            return found;
        }
    }

    /** A SLOT: what it holds, with a place of its own for each thing. */
    private static final class Slot {
        int holds = HOLDS_NOTHING;
        final Part part = new Part();
        final Sheet row = new Sheet();
        int number;
    }
}
