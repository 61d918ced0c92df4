/** Promises 28 to 36: sheets, slots. */
public final class SheetsTest {
    public static void main(String[] args) {
        sheet();
        mark();
        pour();
        table();
        copy();
        lay();
        ask();
        item();
        rest();
        Due.end();
    }

    private static int at(ElevenParts x, int sheet, int place) {
        x.lay(4, 2, sheet);
        return x.item(4, place);
    }

    private static void sheet() { // promise 28
        ElevenParts x = new ElevenParts();
        Due.due("sheet, 24", x.sheet(0, 0, 24), 24);
        Due.due("sheet, 0", x.sheet(3, 1, 0), 0);
        Due.dueAll("sheet, wrong", Due.BAD, x.sheet(-1, 0, 1), x.sheet(4, 0, 1), x.sheet(0, 2, 1), x.sheet(0, -2, 1), x.sheet(0, 0, 25),
                x.sheet(4, 0, -1), x.sheet(0, 2, -1), x.sheet(0, 0, Due.MOST));
        Due.dueAll("sheet, size", Due.SIZE, x.sheet(0, 0, -1), x.sheet(0, 1, Due.LEAST));
        Due.due("sheet, refused ones change nothing", x.mark(0, 23, 77), 1);
        Due.due("sheet, 0 at first", at(x, 0, 22), 0);
        Due.due("sheet, anew", x.sheet(0, 1, 24), 24);
        Due.due("sheet, 0 again", at(x, 0, 23), 0);
        Due.dueAll("sheet, missing", 0, x.sheet(0, -1, 9), x.sheet(0, -1, -9), x.sheet(0, -1, 99));
        Due.due("sheet, it is missing", x.mark(0, 0, 0), Due.NOTHING);
    }

    private static void mark() { // promise 29
        ElevenParts x = new ElevenParts();
        Due.dueAll("mark, wrong", Due.BAD, x.mark(-1, 0, 0), x.mark(4, 0, 0));
        Due.due("mark, missing", x.mark(0, 99, Due.NONE), Due.NOTHING);
        x.sheet(0, 0, 3);
        x.sheet(1, 1, 3);
        int[][] shorts = {{5, 5}, {-5, -5}, {32767, 32767}, {32768, -32768}, {65535, -1}, {65536, 0}, {Due.MOST, -1}, {Due.LEAST, 0}, {123456, -7616}};
        for (int[] s : shorts) {
            Due.due("mark of shorts", x.mark(0, 2, s[0]), 1);
            Due.due("mark of shorts, it is", at(x, 0, 2), s[1]);
        }
        for (int v : new int[] {99999, -99999, 0, 40000}) {
            Due.due("mark of floats", x.mark(1, 2, v), 1);
            Due.due("mark of floats, it is", at(x, 1, 2), v);
        }
        Due.dueAll("mark of floats, wrong", Due.BAD, x.mark(1, 0, 100000), x.mark(1, 0, -100000), x.mark(1, 0, Due.LEAST), x.mark(1, 0, Due.BAD));
        Due.dueAll("mark, index", Due.INDEX, x.mark(0, 3, 0), x.mark(0, -1, 0), x.mark(1, 3, 100000), x.mark(0, 3, Due.NONE), x.mark(0, Due.MOST, 0));
        Due.due("mark, no number in shorts", x.mark(0, 2, Due.NONE), Due.KIND);
        Due.due("mark, it stays", at(x, 0, 2), -7616);
        Due.due("mark, no number in floats", x.mark(1, 2, Due.NONE), 1);
        Due.due("mark, it is no number", at(x, 1, 2), Due.KIND);
    }

    private static void pour() { // promise 30
        ElevenParts x = new ElevenParts();
        for (int i = 0; i < 5; i++) x.part(0, 10 + i, 0, 0);
        Due.dueAll("pour, wrong", Due.BAD, x.pour(-1), x.pour(4));
        Due.due("pour, missing", x.pour(0), Due.NOTHING);
        x.sheet(0, 1, 4);
        x.mark(0, 0, 10);
        x.mark(0, 1, Due.NONE);
        x.mark(0, 2, -3);
        x.mark(0, 3, 100);
        Due.due("pour", x.pour(0), 2);
        int[] due = {10, 11, 0, 99, 14};
        for (int i = 0; i < 5; i++) Due.due("pour, guess " + i, x.told(i, 1), due[i]);
        Due.due("pour again", x.pour(0), 0);
        x.sheet(1, 0, 24);
        x.mark(1, 5, 7);
        Due.due("pour, more places than parts", x.pour(1), 4);
        x.sheet(1, 0, 0);
        Due.due("pour, no places", x.pour(1), 0);
    }

    private static void row(ElevenParts x, int sheet, int sort, int... v) {
        x.sheet(sheet, sort, v.length);
        for (int i = 0; i < v.length; i++) x.mark(sheet, i, v[i]);
    }

    private static void tableIs(String what, ElevenParts x, int... due) {
        for (int w = 0; w < 4; w++) Due.due("table, " + what + " " + w, x.table(0, w), due[w]);
    }

    private static void table() { // promise 31
        ElevenParts x = new ElevenParts();
        Due.dueAll("table, wrong", Due.BAD, x.table(-1, 0), x.table(4, 0), x.table(0, -1), x.table(0, 4));
        Due.due("table, missing", x.table(0, 0), Due.NOTHING);
        x.sheet(0, 0, 0);
        Due.dueAll("table, no places", Due.NONE, x.table(0, 0), x.table(0, 1), x.table(0, 2), x.table(0, 3));
        row(x, 0, 1, Due.NONE, Due.NONE);
        Due.dueAll("table, no numbers", Due.NONE, x.table(0, 0), x.table(0, 1), x.table(0, 2), x.table(0, 3));
        row(x, 0, 0, 4);
        tableIs("one", x, 0, 0, 0, 4);
        row(x, 0, 0, 8, 3, 8, 3);
        tableIs("the first of several", x, 1, 0, 4, 3);
        row(x, 0, 0, 1, 7, 4);
        tableIs("the first is the least", x, 0, 1, 1, 4);
        row(x, 0, 0, 9, 7, 8);
        tableIs("the middle of three", x, 1, 0, 1, 8);
        row(x, 0, 0, 9, 7, 8, 6);
        tableIs("the middle of four", x, 3, 0, 1, 7);
        row(x, 0, 1, Due.NONE, 5, Due.NONE, -2, 99999, 5);
        tableIs("numbers alone", x, 3, 4, 2, 5);
        row(x, 0, 1, Due.NONE, -99999, Due.NONE);
        tableIs("one number", x, 1, 1, 0, -99999);
        row(x, 0, 0, 1, 2, 3, 5, 8, 13, 21, 34, 55, 89, 0, 4, 144, -1);
        tableIs("cards", x, 13, 12, 10, 5);
    }

    private static void copy() { // promise 32
        ElevenParts x = new ElevenParts();
        row(x, 0, 0, 1, 2, 3, 4);
        row(x, 1, 0, 5, 6);
        row(x, 2, 1, 7, Due.NONE, 9);
        Due.dueAll("copy, wrong", Due.BAD, x.copy(-1, 0, 0, 0, 0), x.copy(4, 0, 0, 0, 0), x.copy(0, 0, -1, 0, 0), x.copy(0, 0, 4, 0, 0), x.copy(3, 0, 4, 0, 0));
        Due.dueAll("copy, missing", Due.NOTHING, x.copy(3, 0, 0, 0, 0), x.copy(0, 0, 3, 0, 0), x.copy(3, -1, 3, -1, -1));
        Due.dueAll("copy, not of one sort", Due.KIND, x.copy(0, 0, 2, 0, 0), x.copy(2, 9, 0, 9, 9));
        Due.dueAll("copy, index", Due.INDEX, x.copy(0, -1, 1, 0, 1), x.copy(0, 0, 1, -1, 1), x.copy(0, 0, 1, 0, 3), x.copy(1, 1, 0, 0, 2),
                x.copy(0, 5, 1, 0, 0), x.copy(0, 0, 1, 3, 0), x.copy(0, 0, 1, 0, -1), x.copy(0, Due.MOST, 1, 0, Due.MOST),
                x.copy(0, 0, 0, Due.MOST, 2), x.copy(0, 1, 0, 0, Due.MOST), x.copy(0, 0, 0, 0, Due.LEAST), x.copy(0, 4, 1, 0, -1));
        Due.due("copy, nothing from the end", x.copy(0, 4, 1, 2, 0), 0);
        Due.due("copy", x.copy(0, 2, 1, 0, 2), 2);
        Due.due("copy, they came", at(x, 1, 0) * 10 + at(x, 1, 1), 34);
        Due.due("copy within one, as they were", x.copy(0, 0, 0, 1, 3), 3);
        Due.due("copy within one, they came", at(x, 0, 0) * 1000 + at(x, 0, 1) * 100 + at(x, 0, 2) * 10 + at(x, 0, 3), 1123);
        Due.due("copy within one, down", x.copy(0, 1, 0, 0, 3), 3);
        Due.due("copy within one, they came down", at(x, 0, 0) * 1000 + at(x, 0, 1) * 100 + at(x, 0, 2) * 10 + at(x, 0, 3), 1233);
        Due.due("copy of floats", x.copy(2, 0, 2, 1, 2), 2);
        Due.due("copy of no number", at(x, 2, 2), Due.KIND);
        Due.due("copy, the number", at(x, 2, 1), 7);
    }

    private static void lay() { // promise 33
        ElevenParts x = new ElevenParts();
        x.part(1, 5, 2, 0);
        row(x, 0, 0, 1, 2);
        Due.dueAll("lay, wrong", Due.BAD, x.lay(-1, 0, 0), x.lay(5, 0, 0), x.lay(0, -1, 0), x.lay(0, 4, 0), x.lay(0, 1, 1), x.lay(0, 1, -1),
                x.lay(0, 2, -1), x.lay(0, 2, 4));
        Due.due("lay, missing", x.lay(0, 2, 1), Due.NOTHING);
        Due.due("lay, nothing was there", x.lay(0, 1, 0), 0);
        Due.due("lay, a part was", x.lay(0, 2, 0), 1);
        Due.due("lay, a sheet was", x.lay(0, 3, Due.LEAST), 2);
        Due.due("lay, a refused one changes nothing", x.lay(0, 2, 3), Due.NOTHING);
        Due.due("lay, a number was", x.lay(0, 0, 12345), 3);
        Due.due("lay, nothing was again", x.lay(0, 1, 0), 0);
        x.set(0, 1, 50);
        x.turns(0, 5);
        Due.due("lay, a part as it was then", x.ask(0, 1), 7);
        x.lay(1, 2, 0);
        x.mark(0, 0, 99);
        Due.due("lay, a sheet as it was then", x.item(1, 0), 1);
        x.sheet(0, -1, 0);
        Due.due("lay, a sheet of its own", x.item(1, 1), 2);
        x.back();
        x.keep();
        x.back();
        Due.due("lay, images have no slots", x.ask(0, 1), 7);
    }

    private static void ask() { // promise 34
        ElevenParts x = new ElevenParts();
        int[] worth = {20, 27, 30, 54, 31, 13};
        String[] ofs = {"0", "01", "02", "013", "024", "05"};
        for (int p = 0; p < 6; p++) {
            x.part(p, 20, 7, 1);
            x.lay(p % 5, 1, p);
            for (int k = 0; k < 6; k++) {
                Due.due("ask " + p + " " + k, x.ask(p % 5, k), ofs[p].indexOf('0' + k) >= 0 ? worth[p] : Due.KIND);
            }
        }
        Due.dueAll("ask, wrong", Due.BAD, x.ask(-1, 0), x.ask(5, 0), x.ask(0, -1), x.ask(0, 6));
        x.lay(0, 0, 0);
        Due.due("ask, nothing", x.ask(0, 0), Due.NOTHING);
        Due.due("ask, wrong stands ahead of nothing", x.ask(0, 6), Due.BAD);
        x.lay(0, 3, 0);
        Due.due("ask, a number", x.ask(0, 0), Due.KIND);
    }

    private static void item() { // promise 35
        ElevenParts x = new ElevenParts();
        Due.dueAll("item, wrong", Due.BAD, x.item(-1, 0), x.item(5, 0));
        Due.due("item, nothing", x.item(0, -1), Due.NOTHING);
        x.part(0, 1, 1, 1);
        x.lay(0, 1, 0);
        Due.due("item, a part", x.item(0, -1), Due.KIND);
        x.lay(0, 3, 0);
        Due.due("item, a number", x.item(0, 0), Due.KIND);
        row(x, 0, 1, 4, Due.NONE);
        x.lay(0, 2, 0);
        Due.dueAll("item, index", Due.INDEX, x.item(0, -1), x.item(0, 2), x.item(0, Due.MOST), x.item(0, Due.LEAST));
        Due.due("item", x.item(0, 0), 4);
        Due.due("item, no number", x.item(0, 1), Due.KIND);
        x.sheet(0, 0, 0);
        x.lay(0, 2, 0);
        Due.due("item, no places", x.item(0, 0), Due.INDEX);
    }

    private static void rest() { // promise 36
        ElevenParts x = new ElevenParts();
        Due.dueAll("rest, wrong", Due.BAD, x.rest(-1, 0), x.rest(5, 1));
        Due.due("rest, nothing", x.rest(0, 0), Due.NOTHING);
        x.part(0, 1, 1, 1);
        x.lay(0, 1, 0);
        Due.due("rest, a part", x.rest(0, 0), Due.KIND);
        x.sheet(0, 0, 1);
        x.lay(0, 2, 0);
        Due.due("rest, a sheet", x.rest(0, 0), Due.KIND);
        x.lay(0, 3, -17);
        Due.due("rest below 0", x.rest(0, 5), -2);
        Due.due("rest below 0 by one below 0", x.rest(0, -5), -2);
        Due.due("rest, no", x.rest(0, 0), Due.NO);
        x.lay(0, 3, 17);
        Due.due("rest by one below 0", x.rest(0, -5), 2);
        x.lay(0, 3, Due.LEAST);
        Due.due("rest of the least", x.rest(0, -1), 0);
        Due.due("rest of the least by the least", x.rest(0, Due.LEAST), 0);
    }
}
