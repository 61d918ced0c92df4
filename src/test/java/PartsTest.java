/** Promises 1 to 12: a new object, parts, the book. */
public final class PartsTest {
    public static void main(String[] args) {
        newObject();
        part();
        told();
        saysByKinds();
        as();
        turns();
        set();
        ahead();
        book();
        line();
        factor();
        deal();
        seed();
        Due.end();
    }

    private static void newObject() { // promise 1
        ElevenParts x = new ElevenParts();
        for (int what = 0; what < 6; what++) Due.due("new: count " + what, x.count(what), 0);
        Due.due("new: z", x.count(6), 1);
        Due.due("new: image", x.back(), Due.NO);
        for (int i = 0; i < 4; i++) Due.due("new: sheet", x.pour(i), Due.NOTHING);
        for (int i = 0; i < 5; i++) Due.due("new: slot", x.ask(i, 0), Due.NOTHING);
        for (int i = 0; i < 3; i++) Due.due("new: why", x.why(i), Due.NONE);
        ElevenParts y = new ElevenParts();
        y.part(0, 1, 1, 1);
        y.book(0, 1, 2);
        Due.due("objects are apart", x.count(0) + x.count(1), 0);
    }

    private static void part() { // promise 2
        ElevenParts x = new ElevenParts();
        Due.dueAll("part, wrong", Due.BAD, x.part(-1, 0, 0, 0), x.part(6, 0, 0, 0), x.part(0, -1, 0, 0), x.part(0, 100, 0, 0),
                x.part(0, 0, -1, 0), x.part(0, 0, 11, 0), x.part(0, 0, 0, -1), x.part(0, 0, 0, 3),
                x.part(Due.LEAST, 0, 0, 0), x.part(0, Due.MOST, 0, 0), x.part(0, 0, Due.LEAST, 0), x.part(0, 0, 0, Due.MOST));
        Due.due("part, none came", x.count(0), 0);
        for (int i = 0; i < 10; i++) Due.due("part", x.part(i % 6, 99, 10, 2), i);
        Due.due("part, full", x.part(0, 0, 0, 0), Due.FULL);
        Due.due("part, wrong stands ahead of full", x.part(6, 0, 0, 0), Due.BAD);
        Due.due("part, ten", x.count(0), 10);
        x = new ElevenParts();
        x.keep();
        x.part(0, 1, 1, 1);
        x.part(0, 1, 1, 1);
        x.ahead(0, 1, 1);
        x.back();
        x.part(0, 1, 1, 1);
        x.part(0, 1, 1, 1);
        Due.due("part, nothing is ahead of a new one", x.told(1, 4), 0);
    }

    private static void told() { // promise 3
        ElevenParts x = new ElevenParts();
        Due.due("told, no parts", x.told(0, 0), Due.BAD);
        x.part(0, 5, 3, 2); // 0 .. 5
        x.part(1, 4, 2, 1); // behind 0 and 2 weeks of waiting: 7 .. 13
        x.part(3, 10, 5, 0); // waits 1: 1 .. 11
        x.ahead(0, 1, 1);
        Due.text(x, "wait n+(g>4)*(t>4)+n");
        int[][] due = {
            {0, 5, 3, 2, 0, 5, 0, 5, 0, 5, 0},
            {1, 4, 2, 1, 1, 6, 2, 6, 7, 13, 0},
            {3, 10, 5, 0, 0, 10, 1, 30, 1, 11, 2}};
        for (int p = 0; p < 3; p++) for (int w = 0; w <= 10; w++) Due.due("told " + p + " " + w, x.told(p, w), due[p][w]);
        Due.dueAll("told, wrong", Due.BAD, x.told(3, 0), x.told(-1, 0), x.told(0, 11), x.told(0, -1), x.told(Due.LEAST, 5), x.told(0, Due.MOST));
        x = new ElevenParts();
        for (int i = 0; i < 9; i++) x.part(0, 99, 0, 0);
        for (int i = 1; i < 9; i++) x.ahead(i - 1, i, 1);
        x.part(0, 0, 0, 0);
        Due.text(x, "say g*99");
        Due.text(x, "wait n*100+(g>0)*99");
        Due.due("told, the latest end of nine", x.end(), 9 * (999 + 99));
        Due.due("told, the greatest slack", x.told(9, 10), 9 * (999 + 99));
        x.ahead(8, 9, 1);
        x.set(9, 1, 99);
        Due.due("told, the latest end of all", x.told(9, 9), 10 * (999 + 99));
        Due.due("told, all are critical", x.critical(), 1023);
    }

    private static void saysByKinds() { // promise 3: SAYS and WORTH
        ElevenParts x = new ElevenParts();
        for (int k = 0; k < 6; k++) x.part(k, 20, 7, 1);
        x.book(1, 10, 15);
        x.book(0, 20, 15);
        int[] says = {20, 27, 20, 18, 30, 21}, worth = {20, 27, 30, 54, 31, 13};
        for (int k = 0; k < 6; k++) {
            Due.due("says of kind " + k, x.told(k, 5), says[k]);
            Due.due("worth of kind " + k, x.told(k, 7), worth[k]);
        }
        Due.text(x, "say 995");
        int[] high = {995, 999, 995, 666, 999, 89};
        for (int k = 0; k < 6; k++) Due.due("says much, kind " + k, x.told(k, 5), high[k]);
        Due.text(x, "say 0-1");
        int[] low = {0, 7, 0, 4, 0, 1};
        for (int k = 0; k < 6; k++) Due.due("says below 0, kind " + k, x.told(k, 5), low[k]);
        x.set(4, 1, 99);
        Due.text(x, "say g");
        Due.due("says, sorted, cut", x.told(4, 5), 148);
        x.set(4, 1, 98);
        x.ahead(3, 4, 1);
        Due.due("ends, right behind a change", x.told(4, 9), 18 + 147);
        x.set(3, 1, 23);
        Due.due("begins, right behind a change", x.told(4, 8), 20);
        int[] cards = {1, 1, 2, 3, 5, 5, 8, 8, 8, 13};
        ElevenParts y = new ElevenParts();
        y.part(5, 0, 0, 0);
        for (int g = 0; g < 10; g++) {
            y.set(0, 1, g);
            Due.due("card for " + g, y.told(0, 5), cards[g]);
        }
        int[][] edges = {{13, 13}, {14, 21}, {21, 21}, {22, 34}, {34, 34}, {35, 55}, {55, 55}, {56, 89}, {89, 89}, {90, 89}, {99, 89}};
        for (int[] e : edges) {
            y.set(0, 1, e[0]);
            Due.due("card for " + e[0], y.told(0, 5), e[1]);
        }
    }

    private static void as() { // promise 4
        ElevenParts x = new ElevenParts();
        for (int k = 0; k < 6; k++) x.part(k, 40 + k, 0, 0);
        String[] ofs = {"0", "01", "02", "013", "024", "05"};
        for (int p = 0; p < 6; p++) {
            for (int k = 0; k < 6; k++) {
                Due.due("as " + p + " " + k, x.as(p, k), ofs[p].indexOf('0' + k) >= 0 ? 40 + p : Due.KIND);
            }
        }
        Due.dueAll("as, wrong", Due.BAD, x.as(6, 0), x.as(-1, 0), x.as(0, 6), x.as(0, -1), x.as(Due.MOST, 0), x.as(1, Due.LEAST));
    }

    private static void turns() { // promise 5
        ElevenParts x = new ElevenParts();
        x.part(3, 9, 3, 1);
        Due.due("turns", x.turns(0, 4), 3);
        Due.due("turns, it is", x.told(0, 0), 4);
        Due.due("turns, the rest stays", x.told(0, 1) * 100 + x.told(0, 2) * 10 + x.told(0, 3), 931);
        Due.dueAll("turns, wrong", Due.BAD, x.turns(1, 0), x.turns(-1, 0), x.turns(0, 6), x.turns(0, -1));
        Due.due("turns to the same", x.turns(0, 4), 4);
    }

    private static void set() { // promise 6
        ElevenParts x = new ElevenParts();
        x.part(0, 9, 3, 1);
        Due.due("set guess", x.set(0, 1, 99), 9);
        Due.due("set tail", x.set(0, 2, 10), 3);
        Due.due("set sort", x.set(0, 3, 2), 1);
        Due.dueAll("set, wrong", Due.BAD, x.set(0, 1, 100), x.set(0, 1, -1), x.set(0, 2, 11), x.set(0, 2, -1), x.set(0, 3, 3),
                x.set(0, 3, -1), x.set(0, 0, 0), x.set(0, 4, 0), x.set(1, 1, 0), x.set(-1, 1, 0));
        Due.due("set, it is", x.told(0, 1) * 1000 + x.told(0, 2) * 10 + x.told(0, 3), 99102);
        Due.due("set to 0", x.set(0, 1, 0) + x.set(0, 2, 0) + x.set(0, 3, 0), 111);
    }

    private static void ahead() { // promise 7
        ElevenParts x = new ElevenParts();
        for (int i = 0; i < 10; i++) x.part(0, 1, 0, 0);
        Due.due("ahead", x.ahead(0, 9, 1), 0);
        Due.due("ahead again", x.ahead(0, 9, 1), 1);
        Due.due("ahead, more", x.ahead(8, 9, 1), 0);
        Due.due("ahead, a set", x.told(9, 4), 257);
        Due.due("ahead, no more", x.ahead(0, 9, 0), 1);
        Due.due("ahead, no more again", x.ahead(0, 9, 0), 0);
        Due.due("ahead, the other stays", x.told(9, 4), 256);
        Due.dueAll("ahead, wrong", Due.BAD, x.ahead(9, 9, 1), x.ahead(9, 8, 0), x.ahead(-1, 3, 1), x.ahead(0, 10, 1), x.ahead(10, 11, 1),
                x.ahead(0, 1, 2), x.ahead(0, 1, -1), x.ahead(Due.LEAST, Due.MOST, 1));
    }

    private static void book() { // promise 8
        ElevenParts x = new ElevenParts();
        Due.dueAll("book, wrong", Due.BAD, x.book(-1, 0, 0), x.book(3, 0, 0), x.book(0, -1, 0), x.book(0, 10000, 0), x.book(0, 0, -1), x.book(0, 0, 10000));
        for (int i = 1; i <= 20; i++) Due.due("book", x.book(i % 3, i, 9979 + i), i);
        Due.due("book, one more", x.book(2, 9999, 0), 20);
        Due.due("book, the first went", x.line(0, 1), 2);
        Due.due("book, the last came", x.line(19, 0) * 10000 + x.line(19, 1) + x.line(19, 2), 29999);
        Due.due("book, the one ahead of it", x.line(18, 0) * 100000000L + x.line(18, 1) * 10000 + x.line(18, 2), 200209999);
    }

    private static void line() { // promise 9
        ElevenParts x = new ElevenParts();
        Due.due("line, none", x.line(0, 0), Due.NONE);
        x.book(2, 30, 40);
        Due.due("line sort", x.line(0, 0), 2);
        Due.due("line said", x.line(0, 1), 30);
        Due.due("line was", x.line(0, 2), 40);
        Due.dueAll("line, none", Due.NONE, x.line(1, 0), x.line(-1, 2), x.line(Due.LEAST, 0), x.line(Due.MOST, 1), x.line(20, 0), x.line(7, 1), x.line(19, 2));
        Due.dueAll("line, wrong", Due.BAD, x.line(0, -1), x.line(0, 3), x.line(9, 3));
    }

    private static void factor() { // promise 10
        ElevenParts x = new ElevenParts();
        Due.dueAll("factor without lines", 100, x.factor(-1), x.factor(0), x.factor(1), x.factor(2));
        Due.dueAll("factor, wrong", Due.BAD, x.factor(-2), x.factor(3), x.factor(Due.LEAST), x.factor(Due.MOST));
        x.book(0, 0, 50);
        Due.due("factor, nothing said", x.factor(0), 100);
        x.book(0, 7, 0);
        Due.due("factor, cut", x.factor(0), 100 * 50 / 7);
        x.book(1, 1, 0);
        Due.due("factor, 1 at least", x.factor(1), 1);
        x.book(2, 1, 9999);
        Due.due("factor, 999 at most", x.factor(2), 999);
        Due.due("factor of all", x.factor(-1), 999);
        for (int i = 0; i < 20; i++) x.book(i % 2, 9999, 9998);
        Due.due("factor of much", x.factor(-1), 99);
        Due.due("factor, none left of the sort", x.factor(2), 100);
    }

    private static void deal() { // promise 11
        ElevenParts x = new ElevenParts();
        Due.dueAll("deal, wrong", Due.BAD, x.deal(0), x.deal(11), x.deal(-1));
        Due.due("deal, no draws", x.count(6), 1);
        Due.due("deal", x.deal(2), 2);
        int z = 1;
        int[] by = {6, 20, 11, 3};
        for (int p = 0; p < 2; p++) {
            for (int w = 0; w < 4; w++) {
                z = z * 1103515245 + 12345;
                Due.due("deal, part " + p + " " + w, x.told(p, w), (z >>> 8) % by[w]);
            }
            Due.due("deal, nothing ahead", x.told(p, 4), 0);
        }
        Due.due("deal, z", x.count(6), z);
        Due.due("deal, as many as there is room for", x.deal(10), 8);
        int full = x.count(6);
        Due.due("deal, no room", x.deal(1), 0);
        Due.due("deal, no draws without room", x.count(6), full);
    }

    private static void seed() { // promise 12
        ElevenParts x = new ElevenParts();
        Due.due("seed", x.seed(Due.LEAST), 1);
        Due.due("seed", x.seed(-5), Due.LEAST);
        Due.due("seed, z", x.count(6), -5);
    }
}
