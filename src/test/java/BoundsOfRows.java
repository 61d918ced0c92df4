/** Promises 37 to 41, and the terms that they rest on: each sentence at its bounds. */
final class BoundsOfRows {
    private BoundsOfRows() { }

    static void all(Sentences s) {
        images(s);
        checkCalls(s);
        imageCalls(s);
    }

    private static void images(Sentences s) {
        s.holds("terms 5", "AN IMAGE keeps all but SHEETS, SLOTS, numbers that wait, THE TAPE; all can become as it is (again and again).", """
            2 * part 1 9 5 2; ahead 0 1 1 = 0; book 1 2 3 = 1; seed 7 = 1; text "say 4" = 0; keep = 2; sheet 0 0 2 = 2; lay 0 3 5 = 0; tell 8 = 1; feed 1 2 3 = 12
            set 0 1 1 = 9; set 0 2 1 = 5; set 0 3 1 = 2; turns 0 5 = 1; ahead 0 1 0 = 1; book 1 4 5 = 2; seed 8 = 7; part 0 0 0 0 = 2; back = 2
            count 0 = 2; told 0 0 = 1; told 0 1 = 9; told 0 2 = 5; told 0 3 = 2; told 1 4 = 1; count 1 = 1; line 0 1 = 2; line 1 1 = NONE; count 6 = 7; mark 0 1 3 = 1; rest 0 9 = 5; count 4 = 1; count 5 = 12; told 2 0 ! BAD
            deal 8 = 8; works 0 40; text "say 5" = 1; text "wait 6" = 2; text "fine 7" = 3; mark 0 0 6 = 1; tell 9 = 2; back = 2
            count 0 = 2; told 0 1 = 9; told 0 5 = 9; told 0 6 = 0; fine 0 = 18; count 1 = 1; line 0 0 = 1; line 0 1 = 2; line 0 2 = 3; count 3 = 1; why 0 = 0; why 1 = NONE; why 2 = NONE; count 6 = 7; told 1 4 = 1; count 4 = 2
            lay 1 2 0 = 0; item 1 0 = 6; item 1 1 = 3; sheet 0 -1 0 = 0; lay 0 0 0 = 3; back = 2; pour 0 ! NOTHING; ask 0 0 ! NOTHING; item 1 0 = 6; back = 2; told 0 1 = 9
            new; keep = 0; deal 10 = 10; 20 * book 0 1 1; 14 * text "say 1"; back = 0; count 0 = 0; count 1 = 0; count 3 = 0; count 6 = 1; why 0 = NONE; line 0 0 = NONE; told 0 0 ! BAD; textTold 0 0 ! BAD; part 0 3 0 0 = 0; told 0 5 = 3; text "wait 2" = 0; end = 5
            """);
        s.holds("terms 5", "THE WORKS TOLD of a SORT: of n WORKS of it, one behind the other, by THE IMAGE: what it WAS; FACTOR of all behind it.", """
            part 2 10 10 0 = 0; keep = 1; tell 21 = 1; tell 210 = 2; check 0 1 = 0; tell 21 = 1; tell 210 = 2; tell 21 = 3; tell 135 = 4; check 0 2 = 0     # 21 by 10; 42 by 31
            tell 21 = 1; tell 210 = 2; tell 21 = 3; tell 210 = 4; check 0 2 = 4; works 0 9; seed 5; set 0 1 50 = 10; tell 21 = 1; tell 210 = 2; tell 21 = 3; tell 135 = 4; check 2 2 = 0
            back = 1; turns 0 4 = 2; keep = 1; tell 21 = 1; tell 210 = 2; tell 21 = 3; tell 135 = 4; check 0 2 = 0; book 1 10 10 = 1; keep = 1
            tell 21 = 1; tell 155 = 2; tell 21 = 3; tell 126 = 4; check 0 2 = 0; tell 21 = 1; tell 155 = 2; tell 21 = 3; tell 173 = 4; check 1 2 = 0        # SAID: 10, 21 of sort 0; 10, 10 of sort 1
            new; part 0 10 4 0 = 0; keep = 1; tell 10 = 1; tell 100 = 2; tell 21 = 3; tell 155 = 4; tell 10 = 5; tell 136 = 6; tell 21 = 7; tell 155 = 8; check 0 4 = 0     # draws with the rests 4, 2, 6, 3
            new; part 0 10 10 0 = 0; text "say 42" = 0; text "wait 7" = 1; keep = 1; text "say 21" = 2; text "wait 0" = 3; tell 28 = 1; tell 57 = 2; check 0 1 = 0; back = 1; tell 28 = 1; tell 57 = 2; check 1 1 = 0     # 28 by 49
            new; keep = 0; tell 0 = 1; tell 100 = 2; check 0 1 = 0; 20 * book 0 5 6; keep = 0; tell 0 = 1; tell 120 = 2; check 0 1 = 0
            """);
    }

    private static void checkCalls(Sentences s) {
        s.holds("promise 37", "One more number waits: how many. FULL: 60 wait.", """
            count 4 = 0; tell MIN = 1; tell MAX = 2; tell BAD = 3; 56 * tell 0 = 4..59; tell 1 = 60; tell 1 ! FULL; tell 0 ! FULL; count 4 = 60; check 3 1 ! BAD; count 4 = 0; tell 1 = 1
            """);
        s.holds("promise 38", "The numbers that wait (none do then, whatever is answered) are THE WORKS TOLD of a SORT, of n (1 .. 30), two by two: 0;", """
            part 0 5 0 0 = 0; keep = 1; tell 5 = 1; tell 100 = 2; count 4 = 2; check 0 1 = 0; count 4 = 0; tell 5 = 1; tell 99 = 2; check 0 1 = 2; count 4 = 0; tell 5 = 1; tell 100 = 2; check 2 1 = 0; check 2 1 = 1; count 4 = 0
            """ + "tell 5; tell 100\n".repeat(30) + """
            count 4 = 60; check 0 30 = 0; count 4 = 0
            new; part 0 5 0 0 = 0; keep = 1
            """ + "tell 5; tell 100\n".repeat(29) + """
            count 4 = 58; check 0 29 = 0; tell 5 = 1; check 0 31 ! BAD; count 4 = 0; tell 5 = 1; check 3 1 ! BAD; count 4 = 0; new; tell 5 = 1; check 0 1 ! NO; count 4 = 0; keep = 0; check 0 1 = 1
            """);
        s.holds("promise 38", "else 1 and how many stand right ahead of the first that is not (or is missing, or one too many).", """
            part 0 5 0 0 = 0; keep = 1; check 0 1 = 1; check 0 30 = 1; tell 6 = 1; check 0 1 = 1; tell 5 = 1; check 0 1 = 2; tell 5 = 1; tell 101 = 2; check 0 1 = 2; tell 6 = 1; tell 101 = 2; check 0 1 = 1; tell 5 = 1; tell 100 = 2; check 0 2 = 3
            tell 5 = 1; tell 100 = 2; tell 5 = 3; check 0 1 = 3; tell 5 = 1; tell 100 = 2; tell 5 = 3; tell 100 = 4; check 0 1 = 3; tell 5 = 1; tell 100 = 2; tell 5 = 3; check 0 2 = 4; tell 5 = 1; tell 100 = 2; tell 6 = 3; tell 100 = 4; check 0 2 = 3; tell 5 = 1; tell 99 = 2; tell 5 = 3; check 0 1 = 2
            """ + "tell 5; tell 100\n".repeat(30) + """
            check 0 29 = 59
            new; part 0 5 0 0 = 0; keep = 1
            """ + "tell 5; tell 100\n".repeat(29) + """
            tell 5; check 0 30 = 60
            new; part 0 5 0 0 = 0; keep = 1
            """ + "tell 5; tell 100\n".repeat(29) + """
            tell 5; tell 101; check 0 30 = 60
            new; part 0 5 0 0 = 0; keep = 1
            """ + "tell 5; tell 100\n".repeat(29) + """
            check 0 30 = 59
            """);
        s.holds("promise 38", "BAD; NO: there is no IMAGE.", """
            check -1 1 ! BAD; check 3 1 ! BAD; check MIN 1 ! BAD; check MAX 1 ! BAD; check 0 0 ! BAD; check 0 31 ! BAD; check 0 -1 ! BAD; check 0 MIN ! BAD; check 0 MAX ! BAD; check 0 1 ! NO; check 2 30 ! NO
            keep = 0; check 0 1 = 1; check 2 30 = 1; check -1 1 ! BAD; check 3 1 ! BAD; check 0 0 ! BAD; check 0 31 ! BAD
            """);
    }

    private static void imageCalls(Sentences s) {
        s.holds("promise 39", "AN IMAGE is kept: how many PARTS.", """
            keep = 0; part 0 5 0 0 = 0; keep = 1; set 0 1 6 = 5; keep = 1; set 0 1 7 = 6; back = 1; told 0 1 = 6; 9 * part 0 5 0 0; keep = 10; back = 10; told 9 1 = 5
            """);
        s.holds("promise 40", "All is as THE IMAGE: how many PARTS. NO: there is none.", """
            back ! NO; part 0 5 0 0 = 0; back ! NO; count 0 = 1; keep = 1; 9 * part 0 6 0 0; back = 1; count 0 = 1; back = 1; 9 * part 0 7 0 0; keep = 10; set 9 1 8 = 7; back = 10; told 9 1 = 7; told 1 1 = 7; back = 10
            """);
        s.holds("promise 41", "How many: 0 PARTS, 1 LINES, 2 CRITICAL, 3 TEXTS, 4 numbers that wait, 5 bytes of THE TAPE, 6 z. BAD.", """
            count -1 ! BAD; count 7 ! BAD; count MIN ! BAD; count MAX ! BAD; 3 * part 0 5 0 0; set 2 1 4; 4 * book 0 1 1; 5 * text "say g"; 6 * tell 1; feed 0 0 0; trim 7 = 7; seed 8 = 1
            count 0 = 3; count 1 = 4; count 2 = 2; count 3 = 5; count 4 = 6; count 5 = 7; count 6 = 8; count 7 ! BAD; count -1 ! BAD
            7 * part 0 5 0 0; count 0 = 10; count 2 = 9; set 2 1 5; count 2 = 10; 16 * book 0 1 1; count 1 = 20; book 0 1 1; count 1 = 20; 54 * tell 1; count 4 = 60; seed MIN = 8; count 6 = MIN
            new; 14 * text "say g"; count 3 = 14; 8 * feed 0 0 0; count 5 = 96; seed BAD = 1; count 6 = BAD
            """);
    }
}
