/** Every sentence of the document's terms and promises, at its bounds: just inside, just beyond, empty, full, refused. */
public final class BoundsTest {
    public static void main(String[] args) throws Exception {
        Sentences s = new Sentences();
        BoundsOfParts.all(s);
        BoundsOfSpans.all(s);
        BoundsOfTexts.all(s);
        BoundsOfSheets.all(s);
        BoundsOfRows.all(s);
        lastCall(s);
        s.end();
    }

    /** "An object is used for at most 512 calls": the last one is answered as the first. */
    private static void lastCall(Sentences s) {
        ElevenParts x = new ElevenParts();
        for (int call = 1; call < 512; call++) s.due("call " + call + ", book", x.book(1, 2, call), Math.min(20, call));
        s.due("call 512, line", x.line(19, 2), 511);
    }
}
