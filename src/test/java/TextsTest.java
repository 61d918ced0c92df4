/** Promises 23 to 27: texts. */
public final class TextsTest {
    public static void main(String[] args) {
        feed();
        trim();
        text();
        faults();
        nesting();
        values();
        textTold();
        why();
        Due.end();
    }

    private static void feed() { // promise 23
        ElevenParts x = new ElevenParts();
        for (int i = 1; i <= 8; i++) Due.due("feed", x.feed(0x20202020, 0x20202020, 0x20202020), 12 * i);
        Due.due("feed, full", x.feed(0, 0, 0), Due.FULL);
        Due.due("feed, it keeps what it had", x.count(5), 96);
        x.trim(85);
        Due.due("feed, 97 would be too many", x.feed(0, 0, 0), Due.FULL);
        x.trim(84);
        Due.due("feed, 96 are not", x.feed(0x20202020, 0x20202020, 0x20202020), 96);
        Due.due("feed, blanks alone", x.text(), -100 - 96);
        x.feed(0x73617920, 0x67202020, 0x2020202B); // say g, and a + at the end
        Due.due("feed, the highest byte first", x.text(), -100 - 12);
        x.feed(0x73617920, 0x67FF8000, -1);
        Due.due("feed, bytes above 127", x.text(), -100 - 5);
    }

    private static void trim() { // promise 24
        ElevenParts x = new ElevenParts();
        Due.due("trim, nothing", x.trim(0), 0);
        Due.due("trim, wrong", x.trim(1), Due.BAD);
        x.feed(0x73617920, 0x67202B20, 0x67202020);
        Due.dueAll("trim, wrong", Due.BAD, x.trim(-1), x.trim(13), x.trim(Due.LEAST), x.trim(Due.MOST));
        Due.due("trim, all", x.trim(12), 12);
        Due.due("trim", x.trim(7), 7);
        Due.due("trim, so many", x.count(5), 7);
        Due.due("trim, the first ones", x.text(), -107);
    }

    private static void text() { // promise 25
        ElevenParts x = new ElevenParts();
        Due.due("text, no tape", x.text(), -100);
        for (int i = 0; i < 14; i++) Due.due("text", Due.text(x, i % 2 == 0 ? "say g" : "fine e-d"), i);
        Due.tape(x, "say t");
        Due.due("text, full", x.text(), Due.FULL);
        Due.due("text, the tape is used up though full", x.count(5), 0);
        Due.due("text, a fault stands ahead of full", Due.text(x, "say n"), -104);
        Due.due("text, the tape is used up by a fault", x.count(5), 0);
        Due.due("text, fourteen", x.count(3), 14);
        x = new ElevenParts();
        Due.due("text, ends at a word", Due.text(x, "say n"), -104);
        Due.due("text, a fault is forgotten", Due.text(x, "say g"), 0);
        Due.due("text, a blank", Due.text(x, " "), -101);
        Due.due("text, then nothing", x.text(), -100);
        Due.due("text, a longer one", Due.text(x, "say g+t+f"), 1);
        Due.due("text, a shorter one, nothing is left", Due.text(x, "say g+"), -106);
        StringBuilder longest = new StringBuilder("say g");
        while (longest.length() < 95) longest.append("+t");
        Due.due("text of 95 bytes", Due.text(x, longest.toString()), 2);
        Due.due("text of 95 bytes, its names", x.textTold(2, 1), 46);
        Due.due("text of 96 bytes", Due.text(x, longest + "+"), -196);
    }

    private static void fault(String text, int place) {
        Due.due("fault of '" + text + "'", Due.text(new ElevenParts(), text), place < 0 ? 0 : -100 - place);
    }

    private static void faults() { // promise 25: where the FAULT is
        fault("say g", -1);
        fault("  say   g  ", -1);
        fault("say(g)", -1);
        fault("say!g", -1);
        fault("say g+t*f-12/0034", -1);
        fault("wait n+g+t", -1);
        fault("fine e|d&e<d", -1);
        fault("say g<t&g=t|g>t", -1);
        fault("say (g<t)=(g>t)", -1);
        fault("say ! ! ( g )", -1);
        fault("", 0);
        fault("   ", 3);
        fault("s", 0);
        fault(" sayg", 1);
        fault("says g", 0);
        fault("Say g", 0);
        fault("sayz g", 0);
        fault("saya g", 0);
        fault("aay g", 0);
        fault("sby g", 0);
        fault("bait n", 0);
        fault("waits n", 0);
        fault("mine e", 0);
        fault("fin e", 0);
        fault("say zg", 4);
        fault("say gz", 4);
        fault("say0", 3);
        fault("wait9", 4);
        fault("say 9g", 5);
        fault("say", 3);
        fault("say  ", 5);
        fault("say5", 3); // a word right behind another one
        fault("say 5", -1);
        fault("say 5g", 5);
        fault("say g5", 5);
        fault("say 5 g", 6);
        fault("say g g", 6);
        fault("say gt", 4);
        fault("say say", 4);
        fault("say n", 4);
        fault("say e", 4);
        fault("wait f", 5);
        fault("wait d", 5);
        fault("fine g", 5);
        fault("fine n", 5);
        fault("say 9999", -1);
        fault("say 10000", 4);
        fault("say 00000", 4);
        fault("say g+12345", 6);
        fault("say -1", 4);
        fault("say g+", 6);
        fault("say g+ ", 7);
        fault("say g++t", 6);
        fault("say g!t", 5);
        fault("say g<t<f", 7);
        fault("say g<t=f", 7);
        fault("say (g<t>f)", 8);
        fault("say g<t&t<f", -1);
        fault("say ()", 5);
        fault("say (g", 6);
        fault("say g)", 5);
        fault("say (g))", 7);
        fault("say (g t)", 7);
        fault("say g.", 5);
        fault("say g\t", 5);
        fault("say\tg", 3);
        fault("say g" + (char) 0, 5);
        fault("say " + (char) 231, 4);
        fault("say G", 4);
        fault("g say", 0);
        fault("5", 0);
        fault("say ! ", 6);
        fault("say g & | t", 8);
    }

    private static void nesting() { // promise 25: eight ( and eight ! may be open, each by itself
        fault("say ((((((((g))))))))", -1);
        fault("say (((((((((g)))))))))", 12);
        fault("say !!!!!!!!g", -1);
        fault("say !!!!!!!!!g", 12);
        fault("say !(!(!(!(!(!(!(!(g))))))))", -1);
        fault("say !(!(!(!(!(!(!(!(!g))))))))", 20);
        fault("say !(!(!(!(!(!(!(!((g)))))))))", 20);
        fault("say !!!!!!!!g+!!!!!!!!g", -1);
        fault("say !!!!!!!!(g+!g)", 15);
        fault("say !!!!!!!(!g+!g)", -1);
        fault("say ((((((((g))))))))+((((((((g))))))))", -1);
        fault("say ((((((((g)+(g))))))))", -1);
        fault("say ((((((((g)+((g))))))))", 16);
        fault("say (!g)+!!!!!!!!g", -1);
    }

    private static void value(String e, int due) {
        ElevenParts x = new ElevenParts();
        x.part(0, 7, 3, 0);
        Due.text(x, "fine " + e);
        Due.due("value of " + e + " (e 7, d 2)", x.fine(2), due);
    }

    private static void values() { // promises 3, 22, 25: what a TEXT gives
        value("e", 7);
        value("d", 2);
        value("1+2*3", 7);
        value("(1+2)*3", 9);
        value("10-3-2", 5);
        value("100/7/2", 7);
        value("2*7/4*3", 9);
        value("7/2*2", 6);
        value("(0-7)/2", -3);
        value("e/0", 0);
        value("0/0", 0);
        value("5<5", 0);
        value("4<5", 1);
        value("5=5", 1);
        value("5=4", 0);
        value("5>5", 0);
        value("5>4", 1);
        value("1+1<2+1", 1);
        value("!e", 0);
        value("!0", 1);
        value("!!e", 1);
        value("!0+1", 2);
        value("1+!0", 2);
        value("3-!!e*2", 1);
        value("!e=0", 1);
        value("!(e=0)", 1);
        value("e&d", 1);
        value("e&0", 0);
        value("0&e", 0);
        value("e|0", 1);
        value("0|d", 1);
        value("0|0", 0);
        value("1|0&0", 1);
        value("(1|0)&0", 0);
        value("4&2", 1);
        value("0|e*3", 1);
        value("1<2&2<1", 0);
        value("9999*9999*9999", 9999 * 9999 * 9999);
        value("0-9999*9999*9999-e", -(9999 * 9999 * 9999) - 7);
        value("(0-8192*8192*32)/(0-1)", Due.LEAST);
        value("0007", 7);
        ElevenParts x = new ElevenParts();
        x.part(0, 7, 3, 0);
        x.book(0, 2, 5);
        Due.text(x, "say g*100+t*10+f/250");
        Due.due("names of say", x.told(0, 5), 731);
        x.part(0, 1, 2, 0);
        x.ahead(0, 1, 1);
        Due.text(x, "wait n*50+g*10+t");
        Due.due("names of wait", x.told(1, 6), 62);
        Due.due("wait, held", x.told(0, 6), 73);
    }

    private static void textTold() { // promise 26
        ElevenParts x = new ElevenParts();
        Due.due("textTold, none", x.textTold(0, 0), Due.BAD);
        Due.text(x, "wait n+(g*!t)-12=n");
        Due.text(x, "fine e");
        Due.text(x, "say 1 + 1");
        Due.due("key of wait", x.textTold(0, 0), 1);
        Due.due("key of fine", x.textTold(1, 0), 2);
        Due.due("key of say", x.textTold(2, 0), 0);
        Due.due("operands of the first", x.textTold(0, 1), 5);
        Due.due("operands of the second", x.textTold(1, 1), 1);
        Due.due("operands of the third", x.textTold(2, 1), 2);
        Due.dueAll("textTold, wrong", Due.BAD, x.textTold(3, 0), x.textTold(-1, 0), x.textTold(0, 2), x.textTold(0, -1), x.textTold(Due.MOST, 0));
    }

    private static void why() { // promise 27
        ElevenParts x = new ElevenParts();
        Due.dueAll("why, none", Due.NONE, x.why(0), x.why(1), x.why(2));
        Due.dueAll("why, wrong", Due.BAD, x.why(-1), x.why(3), x.why(Due.LEAST));
        x.part(0, 1, 0, 0);
        Due.text(x, "say 5");
        Due.due("why, the first", x.why(0), 0);
        Due.text(x, "wait 6");
        Due.text(x, "say 7");
        Due.text(x, "say 8 8");
        Due.due("why say", x.why(0), 2);
        Due.due("why wait", x.why(1), 1);
        Due.due("why fine", x.why(2), Due.NONE);
        Due.due("why, it counts", x.told(0, 5), 7);
    }
}
