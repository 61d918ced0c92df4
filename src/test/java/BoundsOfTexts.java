/** Promises 23 to 27, and the terms that they rest on: each sentence at its bounds. */
final class BoundsOfTexts {
    private BoundsOfTexts() { }

    static void all(Sentences s) {
        tape(s);
        grammar(s);
        names(s);
        words(s);
        faults(s);
        values(s);
        tapeCalls(s);
        textCalls(s);
    }

    private static void tape(Sentences s) {
        s.holds("terms 4", "TEXTS, 14 at most, numbered from 0", """
            count 3 = 0; textTold 0 0 ! BAD; text "wait 1" = 0; textTold 0 0 = 1; textTold 1 0 ! BAD; 12 * text "fine 1" = 1..12; count 3 = 13
            text "say 1+1" = 13; textTold 13 1 = 2; count 3 = 14; text "say 1" ! FULL; text "say 1" ! FULL; count 3 = 14; textTold 14 0 ! BAD; why 0 = 13
            new; 13 * text "say 1"; keep = 0; text "fine 2" = 13; text "fine 2" ! FULL; back = 0; count 3 = 13; text "wait 3" = 13; textTold 13 0 = 1; why 2 = NONE; text "fine 2" ! FULL
            """);
        s.holds("terms 4", "from THE TAPE (96 bytes at most; an act that reads it uses it up, whatever it answers): KEY E.", """
            8 * feed 0x20202020 0x20202020 0x20202020; count 5 = 96; feed 0 0 0 ! FULL; count 5 = 96; text ! -196; count 5 = 0
            text "say g+t+t+t+t+t+t+t+t+t+t+t+t+t+t+t+t+t+t+t+t+t+t+t+t+t+t+t+t+t+t+t+t+t+t+t+t+t+t+t+t+t+t+t+t+t" = 0; textTold 0 1 = 46
            text "say g+t+t+t+t+t+t+t+t+t+t+t+t+t+t+t+t+t+t+t+t+t+t+t+t+t+t+t+t+t+t+t+t+t+t+t+t+t+t+t+t+t+t+t+t+t " = 1; count 5 = 0
            text "say g+t+t+t+t+t+t+t+t+t+t+t+t+t+t+t+t+t+t+t+t+t+t+t+t+t+t+t+t+t+t+t+t+t+t+t+t+t+t+t+t+t+t+t+t+t+" fault 96; count 5 = 0
            part 0 2 1 0 = 0; told 0 5 = 47
            tape "say n"; count 5 = 5; text ! -104; count 5 = 0; text ! -100; text "say g" = 2; count 5 = 0; 11 * text "say g"; text "say g" ! FULL; count 5 = 0
            tape "say g"; keep = 1; back = 1; told 0 5 = 2; end = 2; count 5 = 5; text ! FULL; count 5 = 0; text ! -100
            """);
    }

    private static void grammar(Sentences s) {
        s.holds("terms 4", "KEY: say | wait | fine.", """
            text "say 1" = 0; text "wait 1" = 1; text "fine 1" = 2; textTold 0 0 = 0; textTold 1 0 = 1; textTold 2 0 = 2
            text "sa 1" fault 0; text "says 1" fault 0; text "sax 1" fault 0; text "sby 1" fault 0; text "aay 1" fault 0; text "Say 1" fault 0; text "sayy 1" fault 0
            text "wai 1" fault 0; text "waits 1" fault 0; text "waip 1" fault 0; text "fin 1" fault 0; text "fines 1" fault 0; text "finf 1" fault 0; text "g" fault 0; text "1" fault 0
            text "(say 1)" fault 0; text "!say 1" fault 0; text "say say 1" fault 4; text "say wait 1" fault 4; text "fine say" fault 5; text "sa y 1" fault 0
            """);
        s.holds("terms 4", "E, the loosest first: OR: AND { | AND }; AND: TEST { & TEST }; TEST: SUM [ (< | = | >) SUM ]; SUM: TERM { (+ | -) TERM }; TERM: PIECE { (* | /) PIECE };", """
            text "fine 1|0&0" = 0; fine 0 = 1; text "fine 0&0|1" = 1; fine 0 = 1; text "fine 0|0|2" = 2; fine 0 = 1; text "fine 1&2&0" = 3; fine 0 = 0
            text "fine 2&1=2" = 4; fine 0 = 0; text "fine 1=2&2" = 5; fine 0 = 0; text "fine 2=1+1" = 6; fine 0 = 1; text "fine 1+1=2" = 7; fine 0 = 1
            text "fine 1+2*3" = 8; fine 0 = 7; text "fine 2*3+1" = 9; fine 0 = 7; text "fine 9-4-3" = 10; fine 0 = 2; text "fine 40/4/5" = 11; fine 0 = 2
            text "fine 9-4+3" = 12; fine 0 = 8; text "fine 9/2*2" = 13; fine 0 = 8
            new; text "fine 1<2<3" fault 8; text "fine 1<2=3" fault 8; text "fine 1=2>3" fault 8; text "fine (1<2)<3" = 0; text "fine 1<(2<3)" = 1; text "fine 1<2&2<3|3>2" = 2; fine 0 = 1
            text "fine |1" fault 5; text "fine &1" fault 5; text "fine <1" fault 5; text "fine =1" fault 5; text "fine >1" fault 5; text "fine +1" fault 5; text "fine -1" fault 5; text "fine *1" fault 5; text "fine /1" fault 5
            text "fine 1|" fault 7; text "fine 1&" fault 7; text "fine 1<" fault 7; text "fine 1=" fault 7; text "fine 1>" fault 7; text "fine 1+" fault 7; text "fine 1-" fault 7; text "fine 1*" fault 7; text "fine 1/" fault 7
            text "fine 1||1" fault 7; text "fine 1&&1" fault 7; text "fine 1==1" fault 7; text "fine 1<=1" fault 7; text "fine 1+-1" fault 7; text "fine 1*/1" fault 7; text "fine 1!1" fault 6; text "fine 1!=1" fault 6
            new; part 0 7 0 0 = 0; text "fine 1<2+d" = 0; fine 0 = 1; text "fine e>6" = 1; fine 0 = 1; text "fine e>7" = 2; fine 0 = 0; text "fine e<7" = 3; fine 0 = 0; text "fine e<8" = 4; fine 0 = 1
            """);
        s.holds("terms 4", "PIECE: NUMBER (1 to 4 digits) | NAME | ! PIECE | ( E ).", """
            text "fine 0" = 0; fine 9 = 0; text "fine 9" = 1; fine 0 = 9; text "fine 9999" = 2; fine 0 = 9999; text "fine 0000" = 3; fine 0 = 0; text "fine 0012" = 4; fine 0 = 12; text "fine 10" = 5; fine 0 = 10; text "fine 100" = 6; fine 0 = 100
            text "fine 10000" fault 5; text "fine 00000" fault 5; text "fine 99999" fault 5; text "fine 1+12345" fault 7; text "fine 12345678901234567890" fault 5
            text "fine d" = 7; fine 9 = 9; text "fine !d" = 8; fine 9 = 0; fine 0 = 1; text "fine !!d" = 9; fine 9 = 1; text "fine (d)" = 10; fine 9 = 9; text "fine !(d+1)" = 11; fine 9 = 0; text "fine (!d)" = 12; fine 0 = 1
            text "fine !d+5" = 13; fine 0 = 6
            new; text "fine !" fault 6; text "fine (" fault 6; text "fine ()" fault 6; text "fine )" fault 5; text "fine (d" fault 7; text "fine d)" fault 6; text "fine (d))" fault 8; text "fine (d d)" fault 8; text "fine !)" fault 6; text "fine d(d)" fault 6
            text "fine d!" fault 6; text "fine (d)(d)" fault 8; text "fine (d)d" fault 8; text "fine (d)1" fault 8; text "fine !+d" fault 6; text "fine !d!" fault 7; text "fine d !d" fault 7; text "fine (+d)" fault 6; text "fine (d+)" fault 8
            text "fine (1|0)&0" = 0; fine 0 = 0; text "fine 2*(0&1|5<6)" = 1; fine 0 = 2
            text "fine (d=1)=1" = 2; text "fine !(d=1)=1" = 3; text "fine (d=1=1)" fault 9; text "fine 3*!0" = 4; fine 0 = 3; text "fine !0*3" = 5; fine 0 = 3
            """);
    }

    private static void names(Sentences s) {
        String[] keys = {"say", "wait", "fine"}, known = {"gtf", "ngt", "ed"};
        StringBuilder run = new StringBuilder();
        for (int key = 0; key < 3; key++) {
            run.append("new\n");
            for (char c = 'a'; c <= 'z'; c++) {
                run.append("text \"").append(keys[key]).append(' ').append(c).append('"');
                int nth = "abcdefghijklmnopqrstuvwxyz".chars().limit(c - 'a').map(known[key]::indexOf).filter(i -> i >= 0).toArray().length;
                run.append(known[key].indexOf(c) >= 0 ? " = " + nth : " fault " + (keys[key].length() + 1)).append('\n');
            }
        }
        s.holds("terms 4", "NAMES, each one letter: of say g GUESS, t TAIL, f FACTOR of all; of wait n how many PARTS are AHEAD, g, t; of fine e THE END by what is said, d the week.", run + """
            new; text "say gg" fault 4; text "say G" fault 4; text "say gt" fault 4; text "wait nn" fault 5; text "fine ed" fault 5
            new; 3 * part 0 7 10 1; book 0 2 3 = 1; book 1 2 1 = 2; text "say g" = 0; told 0 5 = 7; text "say t" = 1; told 0 5 = 10; text "say f" = 2; told 0 5 = 100; book 1 4 12 = 3; told 0 5 = 200
            text "wait n" = 3; told 2 6 = 0; ahead 0 2 1 = 0; told 2 6 = 1; ahead 1 2 1 = 0; told 2 6 = 2; text "wait g" = 4; told 2 6 = 7; text "wait t" = 5; told 2 6 = 10
            text "wait n*50" = 6; told 2 6 = 99; end = 499; text "fine e" = 7; fine 3 = 499; text "fine d" = 8; fine 3 = 3; text "fine e*1000+d" = 9; fine 7 = 499007
            new; 10 * part 0 0 0 0; text "wait n" = 0; ahead 0 9 1; ahead 1 9 1; ahead 2 9 1; ahead 3 9 1; ahead 4 9 1; ahead 5 9 1; ahead 6 9 1; ahead 7 9 1; told 9 6 = 8; ahead 8 9 1; told 9 6 = 9
            new; part 0 1 0 0 = 0; text "say f" = 0; book 0 1 9999 = 1; told 0 5 = 999; new; part 0 1 0 0 = 0; text "say f" = 0; book 0 9999 0 = 1; told 0 5 = 1
            """);
    }

    /** THE TAPE is twelve bytes: those told, and blanks. */
    private static String twelve(int... bytes) {
        int[] v = {0x20202020, 0x20202020, 0x20202020};
        for (int i = 0; i < bytes.length; i++) {
            int shift = 24 - i % 4 * 8;
            v[i / 4] = v[i / 4] & ~(255 << shift) | bytes[i] << shift;
        }
        return "new; feed " + v[0] + ' ' + v[1] + ' ' + v[2] + " = 12; ";
    }

    private static boolean isLetter(int b) { return b >= 'a' && b <= 'z'; }

    private static boolean isDigit(int b) { return b >= '0' && b <= '9'; }

    private static String textIs(boolean one, int fault) { return one ? "text = 0\n" : "text ! " + (-100 - fault) + "\n"; }

    private static void words(Sentences s) {
        StringBuilder run = new StringBuilder();
        for (int b = 0; b < 256; b++) {
            // any byte ahead of the key, behind it, and behind a name
            run.append(twelve(b, 's', 'a', 'y', ' ', 'g')).append(textIs(b == 32, 0));
            int behindKey = b == '(' ? 12 : isLetter(b) ? 0 : 3;
            run.append(twelve('s', 'a', 'y', b, 'g')).append(textIs(b == 32 || b == '!', behindKey));
            int behindName = b == 32 ? 6 : isLetter(b) ? 4 : 5;
            run.append(twelve('s', 'a', 'y', ' ', 'g', b, 't')).append(textIs(b != 0 && "|&<=>+-*/".indexOf(b) >= 0, behindName));
        }
        s.holds("terms 4", "A word is a row of letters a .. z, or of digits, as long as it goes; any other byte is a sign by itself.", run + """
            new; text "say gtf" fault 4; text "say 123 4" fault 8; text "sayg" fault 0; text "say g1" fault 5; text "say 1g" fault 5; text "say g_t" fault 5; text "say gAt" fault 5; text "say g.5" fault 5
            text "fine 12+34" = 0; fine 0 = 46; text "fine 1234" = 1; fine 0 = 1234; text "say !!g" = 2; text "say g++t" fault 6; text "say g>=t" fault 6
            """);
        s.holds("terms 4", "Between words and signs, and at the ends, there may be blanks (byte 32); a word right behind another one needs one.", """
            text "   say   g   +   12   " = 0; text "say g+12" = 1; text "say(g)" = 2; text "say!g" = 3; text "say   (   g   )   *   !   !   3   " = 4; text "say 1<2" = 5
            text "say5" fault 3; text "wait5" fault 4; text "say 5" = 6; text "say 5g" fault 5; text "say g5" fault 5; text "say 5 g" fault 6; text "say g 5" fault 6; text "say g g" fault 6; text "say 1 2" fault 6; text "say g+5t" fault 7
            text "say g" = 7; text "say g " = 8; text " say g" = 9; text "say (g)5" fault 7; text "say (g) 5" fault 8; text "say5g" fault 3; text "say 1 +1" = 10
            new; feed 0x73617909 0x67202020 0x20202020 = 12; text ! -103; feed 0x7361790A 0x67202020 0x20202020 = 12; text ! -103; feed 0x73617900 0x67202020 0x20202020 = 12; text ! -103; feed 0x736179A0 0x67202020 0x20202020 = 12; text ! -103
            """);
    }

    private static void faults(Sentences s) {
        s.holds("terms 4", "FAULT: the first byte of the first word or sign with which no TEXT goes on (a word that needs a blank ahead of it, a NUMBER of more than 4 digits,", """
            text "   says g" fault 3; text "say   hello" fault 6; text "say g  ?" fault 7; text "say (g  ]" fault 8; text "say g+  n" fault 8; text "say g  t" fault 7
            text "say5" fault 3; text "say g5" fault 5; text "say 5g" fault 5; text "say g*5f" fault 7; text "say 1234" = 0; text "say 12345" fault 4; text "say  12345" fault 5; text "say g/00001" fault 6
            text "say g<12345" fault 6; text "say (12345" fault 5; text "say !12345" fault 5; text "say n+12345" fault 4; text "say ? ?" fault 4; text "wait f" fault 5; text "fine g" fault 5; text "say e" fault 4
            text "say 5 12345" fault 6; text "say12345" fault 3; text "12345" fault 0; text "say g12345" fault 5
            """);
        s.holds("terms 4", "the ninth ( that would be open within others, the ninth ! likewise, each by itself);", """
            text "say (((((((g)))))))" = 0; text "say ((((((((g))))))))" = 1; text "say (((((((((g)))))))))" fault 12; text "say ( ( ( ( ( ( ( ( ( g" fault 20; text "say (((((((((" fault 12
            text "say ((((((((g))))))))+((((((((g))))))))" = 2; text "say ((((((((g)+(t))))))))" = 3; text "say ((((((((g)+((t)))))))))" fault 16; text "say (g)+(((((((((t" fault 16; text "say ((((((((g)))))))))" fault 21
            text "say !!!!!!!g" = 4; text "say !!!!!!!!g" = 5; text "say !!!!!!!!!g" fault 12; text "say ! ! ! ! ! ! ! ! ! g" fault 20; text "say !!!!!!!!g+!!!!!!!!t" = 6; text "say !!!!!!!!g+!!!!!!!!!t" fault 22
            text "say !!!!!!!!((((((((g))))))))" = 7; text "say ((((((((!!!!!!!!g))))))))" = 8; text "say !(!(!(!(!(!(!(!(g))))))))" = 9; text "say !(!(!(!(!(!(!(!((g" fault 20; text "say !(!(!(!(!(!(!(!(!g" fault 20
            text "say !!!!!!!!(!g)" fault 13; text "say !!!!!!!!(g+!t)" fault 15; text "say !!!!!!!(!g+!t)" = 10; text "say !!!!!!!!(g)+!t" = 11; text "say ((((((((!!!!!!!!!g" fault 20; text "say !!!!!!!!(((((((((g" fault 20
            text "say (!g)+!!!!!!!!t" = 12
            """);
        s.holds("terms 4", "the end (the place behind the last byte), if it comes too soon.", """
            text ! -100; text "" fault 0; text " " fault 1; text ! -100; text "" fault 0; text "say" fault 3; text "say " fault 4; text "say   " fault 6; text "say g+" fault 6; text "say g+  " fault 8; text "say !" fault 5; text "say (" fault 5; text "say (g" fault 6; text "say (g  " fault 8
            text "say ((g)" fault 8; text "sa" fault 0; text "say g" = 0; text "say (g)" = 1; feed 0x73617920 0x28672020 0x20202020; text ! -112
            8 * feed 0x20202020 0x20202020 0x20202020; text ! -196; 8 * feed 0x20202020 0x20202020 0x20202020; trim 95 = 95; text ! -195
            """);
    }

    private static void values(Sentences s) {
        s.holds("terms 4", "Ints wrap; / is 0 by 0; tests, & | ! give 1 or 0 (what is not 0 is true; both sides are worked out).", """
            text "fine 8192*8192*16+8192*8192*16" = 0; fine 0 = MIN; text "fine 8192*8192*16+8192*8192*16-1" = 1; fine 0 = MAX; text "fine 8192*8192*64" = 2; fine 0 = 0; text "fine 0-8192*8192*32" = 3; fine 0 = MIN
            text "fine (8192*8192*32)/(0-1)" = 4; fine 0 = MIN; text "fine 0-8192*8192*32-1" = 5; fine 0 = MAX; text "fine 9999*9999*9999" = 6; fine 0 = -1027349969
            text "fine 5/0" = 7; fine 0 = 0; text "fine 0/0" = 8; fine 0 = 0; text "fine (0-5)/d" = 9; fine 0 = 0; fine 1 = -5; text "fine 1+5/0*3" = 10; fine 0 = 1; text "fine (8192*8192*32)/0" = 11; fine 0 = 0
            new; text "fine 4<5" = 0; fine 0 = 1; text "fine 5<5" = 1; fine 0 = 0; text "fine 6<5" = 2; fine 0 = 0; text "fine 4=5" = 3; fine 0 = 0; text "fine 5=5" = 4; fine 0 = 1; text "fine 6=5" = 5; fine 0 = 0
            text "fine 4>5" = 6; fine 0 = 0; text "fine 5>5" = 7; fine 0 = 0; text "fine 6>5" = 8; fine 0 = 1; text "fine 0-1<0" = 9; fine 0 = 1; text "fine 8192*8192*32<0" = 10; fine 0 = 1
            text "fine 8192*8192*32<8192*8192*32-1" = 11; fine 0 = 1
            new; text "fine 4&2" = 0; fine 0 = 1; text "fine 0&2" = 1; fine 0 = 0; text "fine 4&0" = 2; fine 0 = 0; text "fine 0&0" = 3; fine 0 = 0; text "fine 4|2" = 4; fine 0 = 1; text "fine 0|2" = 5; fine 0 = 1; text "fine 4|0" = 6; fine 0 = 1; text "fine 0|0" = 7; fine 0 = 0
            text "fine !0" = 8; fine 0 = 1; text "fine !1" = 9; fine 0 = 0; text "fine !9" = 10; fine 0 = 0; text "fine !!9" = 11; fine 0 = 1; text "fine !(0-1)" = 12; fine 0 = 0; text "fine (0-1)&(0-2)" = 13; fine 0 = 1
            new; text "fine 1|5/0" = 0; fine 0 = 1; text "fine 0&5/0" = 1; fine 0 = 0; text "fine (0-1)|0" = 2; fine 0 = 1
            """);
        s.holds("terms 4", "Of a KEY that TEXT counts that was told last.", """
            part 0 1 0 0 = 0; text "say 5" = 0; told 0 5 = 5; text "say 6" = 1; told 0 5 = 6; why 0 = 1; text "wait 7" = 2; told 0 5 = 6; told 0 6 = 7; text "say n" fault 4; told 0 5 = 6; why 0 = 1; text "wait 8" = 3; told 0 6 = 8; why 1 = 3
            text "fine 1" = 4; text "fine 2" = 5; fine 0 = 2; 7 * text "wait 3" = 6..12; text "say 4" = 13; told 0 5 = 4; text "say 9" ! FULL; told 0 5 = 4; why 0 = 13; why 1 = 12; why 2 = 5
            new; part 0 1 0 0 = 0; text "say 5" = 0; keep = 1; text "say 6" = 1; told 0 5 = 6; back = 1; told 0 5 = 5; why 0 = 0; text "wait 1" = 1; told 0 5 = 5; why 0 = 0; why 1 = 1
            """);
    }

    private static void tapeCalls(Sentences s) {
        s.holds("promise 23", "Twelve bytes come to THE TAPE, the highest of each number first: how many it has. FULL: it would have more than 96.", """
            count 5 = 0; 8 * feed 0 0 0; count 5 = 96; feed 0 0 0 ! FULL; trim 85 = 85; feed 0 0 0 ! FULL; count 5 = 85; trim 84 = 84; feed 0 0 0 = 96; feed 0 0 0 ! FULL; trim 0 = 0; feed 1 1 1 = 12; feed 1 1 1 = 24
            new; feed 0x73617920 0x672B742A 0x662D3132 = 12; text = 0; textTold 0 1 = 4; feed 0x66696E65 0x20313233 0x342B3536 = 12; text = 1; fine 0 = 1290
            feed 0x73617920 0x67FFFFFF 0xFFFFFFFF = 12; text ! -105; feed 0x80617920 0 0 = 12; text ! -100; feed MIN MIN MIN = 12; text ! -100; feed MAX MAX MAX = 12; text ! -100
            feed 0x20202073 0x61792020 0x20202020 = 12; feed 0x31323334 0x20202020 0x20202020 = 24; text = 2
            new; feed 0x66696E65 0x20202020 0x20202031 = 12; feed 0x32333420 0x20202020 0x20202020 = 24; text = 0; fine 0 = 1234       # words go on from one feed to the next
            """);
        s.holds("promise 24", "THE TAPE keeps its first n bytes: n. BAD.", """
            trim 0 = 0; trim 1 ! BAD; trim -1 ! BAD; feed 0x66696E65 0x20313233 0x34202020 = 12; trim 13 ! BAD; trim -1 ! BAD; trim MAX ! BAD; trim MIN ! BAD; count 5 = 12
            trim 12 = 12; count 5 = 12; trim 8 = 8; count 5 = 8; trim 9 ! BAD; text = 0; fine 0 = 123; trim 1 ! BAD
            feed 0x66696E65 0x20313233 0x34202020 = 12; trim 0 = 0; count 5 = 0; text ! -100; 8 * feed 0 0 0; trim 97 ! BAD; trim 96 = 96; trim 95 = 95; count 5 = 95
            new; feed 0x66696E65 0x20313233 0x34202020 = 12; trim 6 = 6; feed 0x39392020 0x20202020 0x20202020 = 18; text = 0; fine 0 = 199       # what was cut off does not come again
            """);
    }

    private static void textCalls(Sentences s) {
        s.holds("promise 25", "THE TAPE is a TEXT: its number. -100 less the place of its FAULT; FULL.", """
            text ! -100; text "g" fault 0; text " g" fault 1; text "say g)" fault 5; count 3 = 0; 14 * text "say g" = 0..13; count 3 = 14
            text "say g" ! FULL; text "say g)" fault 5; text ! -100; text "say" fault 3; count 3 = 14; count 5 = 0
            """);
        s.holds("promise 26", "Of a TEXT: what 0 KEY (0 say, 1 wait, 2 fine), 1 how many NUMBERS and NAMES it has. BAD.", """
            textTold 0 0 ! BAD; textTold -1 0 ! BAD; text "say 1" = 0; text "wait !(n)" = 1; text "fine 12+e*(d-e)/1234=!!d|0" = 2; textTold 0 0 = 0; textTold 0 1 = 1; textTold 1 0 = 1; textTold 1 1 = 1; textTold 2 0 = 2; textTold 2 1 = 7
            textTold 0 -1 ! BAD; textTold 0 2 ! BAD; textTold 0 MIN ! BAD; textTold 0 MAX ! BAD; textTold 3 0 ! BAD; textTold -1 1 ! BAD; textTold MAX 0 ! BAD; textTold MIN 0 ! BAD
            11 * text "say 1+1"; textTold 13 1 = 2; textTold 14 1 ! BAD
            """);
        s.holds("promise 27", "The TEXT that counts for a KEY. BAD; NONE.", """
            why -1 ! BAD; why 3 ! BAD; why MIN ! BAD; why MAX ! BAD; why 0 = NONE; why 1 = NONE; why 2 = NONE
            text "fine 1" = 0; why 2 = 0; why 0 = NONE; why 1 = NONE; text "say 1" = 1; why 0 = 1; text "wait 1" = 2; why 1 = 2; why 2 = 0; text "fine 1" = 3; why 2 = 3; why 3 ! BAD; why -1 ! BAD
            """);
    }
}
