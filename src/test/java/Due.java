/** What the project's tests share: answers that are due, and THE TAPE fed with a text. */
final class Due {
    static final int BAD = ElevenParts.BAD, NO = ElevenParts.NO, FULL = ElevenParts.FULL, NONE = ElevenParts.NONE;
    static final int NOTHING = ElevenParts.NOTHING, KIND = ElevenParts.KIND, INDEX = ElevenParts.INDEX, SIZE = ElevenParts.SIZE;
    static final int LEAST = Integer.MIN_VALUE, MOST = Integer.MAX_VALUE;

    private static int wrong = 0;
    private static int asked = 0;

    private Due() { }

    static void due(String what, long got, long want) {
        asked++;
        if (got != want) {
            wrong++;
            System.out.println(what + " answered " + got + ", due is " + want);
        }
    }

    static void dueAll(String what, long want, long... got) {
        for (int i = 0; i < got.length; i++) due(what + ", case " + i, got[i], want);
    }

    static void end() {
        System.out.println(wrong == 0 ? asked + " answers are as due" : wrong + " of " + asked + " answers are not as due");
        if (wrong != 0) System.exit(1);
    }

    /** THE TAPE holds that text and nothing else then. */
    static void tape(ElevenParts x, String text) {
        x.trim(0);
        StringBuilder padded = new StringBuilder(text);
        while (padded.length() % 12 != 0) padded.append(' ');
        for (int i = 0; i < padded.length(); i += 12) {
            x.feed(four(padded, i), four(padded, i + 4), four(padded, i + 8));
        }
        x.trim(text.length());
    }

    static int four(CharSequence text, int at) {
        int v = 0;
        for (int i = 0; i < 4; i++) v = v << 8 | text.charAt(at + i);
        return v;
    }

    static int text(ElevenParts x, String text) {
        tape(x, text);
        return x.text();
    }

    /** All that can be asked without a change, as one row; equal rows are equal states. */
    static String state(ElevenParts x) {
        StringBuilder b = new StringBuilder();
        for (int i = 0; i < 7; i++) b.append(x.count(i)).append(' ');
        for (int p = 0; p < x.count(0); p++) for (int w = 0; w <= 10; w++) b.append(x.told(p, w)).append(' ');
        for (int i = 0; i < x.count(1); i++) for (int w = 0; w < 3; w++) b.append(x.line(i, w)).append(' ');
        for (int i = 0; i < x.count(3); i++) for (int w = 0; w < 2; w++) b.append(x.textTold(i, w)).append(' ');
        for (int i = 0; i < 3; i++) b.append(x.why(i)).append(' ').append(x.fine(i)).append(' ');
        for (int i = 0; i < 5; i++) slot(x, i, b.append("slot "));
        for (int i = 0; i < 4; i++) for (int w = 0; w < 4; w++) b.append(x.table(i, w)).append(' ');
        return b.toString();
    }

    /** What a SLOT holds, in few calls: an object has 512 of them. */
    private static void slot(ElevenParts x, int slot, StringBuilder b) {
        int worth = x.ask(slot, 0);
        if (worth == NOTHING) return;
        if (worth != KIND) for (int k = 0; k < 6; k++) b.append(x.ask(slot, k)).append(' ');
        else if (x.item(slot, -1) != INDEX) b.append(x.rest(slot, MOST)).append(' ').append(x.rest(slot, LEAST)).append(' ');
        else for (int place = 0; x.item(slot, place) != INDEX; place++) b.append(x.item(slot, place)).append(' ');
    }
}
