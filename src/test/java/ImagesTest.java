/** Promises 37 to 41: rows, images; and that refused calls change nothing. */
public final class ImagesTest {
    public static void main(String[] args) {
        tell();
        check();
        keepAndBack();
        count();
        refused();
        Due.end();
    }

    private static void tell() { // promise 37
        ElevenParts x = new ElevenParts();
        for (int i = 1; i <= 60; i++) Due.due("tell", x.tell(-i), i);
        Due.due("tell, full", x.tell(1), Due.FULL);
        Due.due("tell, sixty wait", x.count(4), 60);
    }

    private static int checked(ElevenParts x, int sort, int n, int... told) {
        for (int v : told) x.tell(v);
        int answer = x.check(sort, n);
        Due.due("check, none wait then", x.count(4), 0);
        return answer;
    }

    private static void check() { // promise 38
        ElevenParts x = new ElevenParts();
        Due.due("check, no image", checked(x, 0, 1, 1, 2), Due.NO);
        Due.due("check, wrong stands ahead of no image", checked(x, 3, 1, 1, 2), Due.BAD);
        x.part(0, 5, 0, 0);
        x.part(2, 5, 10, 1);
        x.book(0, 10, 10);
        x.keep();
        // said 5, was 11: 21 by 15; said 7 then, was 11: 32 by 22; said 7 again: 43 by 29.
        Due.due("check, all are", checked(x, 1, 3, 11, 140, 11, 145, 11, 148), 0);
        Due.due("check, again", checked(x, 1, 3, 11, 140, 11, 145, 11, 148), 0);
        Due.due("check, of all sorts alike", checked(x, 2, 1, 11, 140), 0);
        Due.due("check, the first is not", checked(x, 1, 1, 10, 140), 1);
        Due.due("check, the second is not", checked(x, 1, 1, 11, 141), 2);
        Due.due("check, the last is not", checked(x, 1, 3, 11, 140, 11, 145, 11, 149), 6);
        Due.due("check, none", checked(x, 1, 1), 1);
        Due.due("check, the second is missing", checked(x, 1, 1, 11), 2);
        Due.due("check, the third is missing", checked(x, 1, 2, 11, 140), 3);
        Due.due("check, one too many", checked(x, 1, 1, 11, 140, 11), 3);
        Due.due("check, two too many", checked(x, 1, 1, 11, 140, 11, 145), 3);
        Due.dueAll("check, wrong", Due.BAD, checked(x, -1, 1, 11), checked(x, 3, 1, 11), checked(x, 1, 0), checked(x, 1, 31, 11, 140));
        x.works(1, 3);
        x.seed(4);
        x.turns(1, 5);
        x.part(0, 99, 0, 0);
        Due.text(x, "wait 9");
        String before = Due.state(x);
        Due.due("check, by the image", checked(x, 1, 3, 11, 140, 11, 145, 11, 148), 0);
        Due.due("check changes nothing", before.equals(Due.state(x)) ? 1 : 0, 1);
        checkOfThirty();
    }

    private static void checkOfThirty() { // promise 38
        ElevenParts x = new ElevenParts();
        int[] row = new int[60];
        x.part(0, 5, 0, 0);
        x.part(2, 5, 5, 1);
        x.book(0, 10, 10);
        Due.text(x, "wait n*9");
        x.ahead(0, 1, 1);
        x.keep();
        for (int i = 0; i < 30; i++) {
            x.works(0, 1);
            row[2 * i] = x.line(x.count(1) - 1, 2);
            row[2 * i + 1] = x.factor(-1);
        }
        Due.due("check of thirty", checked(x, 0, 30, row), 0);
        row[59]++;
        Due.due("check of thirty, the last is not", checked(x, 0, 30, row), 60);
    }

    private static void keepAndBack() { // promises 39 and 40
        ElevenParts x = new ElevenParts();
        Due.due("back, no image", x.back(), Due.NO);
        x.deal(3);
        x.ahead(0, 2, 1);
        x.book(1, 2, 3);
        Due.text(x, "say g+1");
        Due.text(x, "fine e");
        Due.due("keep", x.keep(), 3);
        String kept = Due.state(x);
        for (int again = 0; again < 2; again++) {
            x.deal(2);
            x.ahead(0, 2, 0);
            x.ahead(1, 2, 1);
            x.turns(0, 5);
            x.set(1, 1, 98);
            x.set(1, 2, 9);
            x.set(1, 3, 2);
            x.works(2, 25);
            Due.text(x, "say 3");
            Due.text(x, "wait 4");
            x.seed(5);
            Due.due("back", x.back(), 3);
            Due.due("back, all is as it was", kept.equals(Due.state(x)) ? 1 : 0, 1);
        }
        Due.text(x, "say 3");
        Due.due("back, texts go on", x.why(0), 2);
        x.sheet(0, 0, 2);
        x.lay(0, 3, 5);
        x.tell(6);
        x.feed(0, 0, 0);
        x.back();
        Due.due("back, sheets stay", x.mark(0, 1, 1), 1);
        Due.due("back, slots stay", x.rest(0, 3), 2);
        Due.due("back, what waits stays", x.count(4), 1);
        Due.due("back, the tape stays", x.count(5), 12);
        x.part(0, 0, 0, 0);
        Due.due("keep, anew", x.keep(), 4);
        x.deal(6);
        Due.due("back to the new one", x.back(), 4);
    }

    private static void count() { // promise 41
        ElevenParts x = new ElevenParts();
        x.part(0, 3, 0, 0);
        x.part(0, 3, 0, 0);
        x.part(0, 2, 0, 0);
        x.book(0, 0, 0);
        Due.text(x, "say g");
        Due.text(x, "say g");
        Due.text(x, "wait 0");
        Due.text(x, "wait 0");
        for (int i = 0; i < 5; i++) x.tell(i);
        x.feed(0, 0, 0);
        x.trim(7);
        x.seed(-8);
        int[] due = {3, 1, 2, 4, 5, 7, -8};
        for (int what = 0; what < 7; what++) Due.due("count " + what, x.count(what), due[what]);
        Due.dueAll("count, wrong", Due.BAD, x.count(-1), x.count(7), x.count(Due.LEAST), x.count(Due.MOST));
    }

    private static void refused() { // terms: a call that is refused changes nothing
        ElevenParts x = new ElevenParts();
        x.deal(10);
        x.ahead(0, 1, 1);
        x.works(0, 3);
        Due.text(x, "say g+1");
        Due.text(x, "wait n");
        x.sheet(0, 0, 5);
        x.sheet(1, 1, 5);
        x.lay(0, 1, 2);
        x.lay(1, 2, 0);
        x.lay(2, 3, 9);
        x.tell(1);
        x.feed(1, 2, 3);
        String before = Due.state(x);
        Due.dueAll("refused", Due.BAD, x.part(9, 0, 0, 0), x.turns(0, 9), x.set(0, 1, 200), x.ahead(1, 0, 1), x.book(0, -1, 0), x.deal(0),
                x.works(0, 0), x.works(9, 1), x.trim(50), x.sheet(0, 0, 99), x.sheet(0, 9, 0), x.mark(1, 0, 100000), x.pour(9), x.lay(0, 1, 10), x.lay(0, 9, 0));
        Due.dueAll("refused", Due.FULL, x.part(0, 0, 0, 0));
        Due.dueAll("refused", Due.INDEX, x.mark(0, 5, 1), x.copy(0, 0, 0, 4, 2));
        Due.dueAll("refused", Due.NOTHING, x.lay(1, 2, 3), x.copy(0, 0, 3, 0, 1), x.pour(2));
        Due.dueAll("refused", Due.KIND, x.copy(0, 0, 1, 0, 1), x.mark(0, 0, Due.NONE));
        Due.dueAll("refused", Due.SIZE, x.sheet(0, 1, -1));
        Due.dueAll("refused", Due.NO, x.back(), x.rest(2, 0));
        Due.due("refused calls change nothing", before.equals(Due.state(x)) ? 1 : 0, 1);
    }
}
