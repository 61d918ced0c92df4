/** Promises 28 to 36, and the terms that they rest on: each sentence at its bounds. */
final class BoundsOfSheets {
    private BoundsOfSheets() { }

    static void all(Sentences s) {
        things(s);
        tables(s);
        sheetCalls(s);
        rowCalls(s);
        copyCalls(s);
        slotCalls(s);
    }

    private static void things(Sentences s) {
        s.holds("terms 5", "SHEETS 0 .. 3 are rows of shorts (sort 0) or floats (1; whole numbers), with 0 to 24 places, or MISSING (at first).", """
            table 0 0 ! NOTHING; table 3 0 ! NOTHING; table -1 0 ! BAD; table 4 0 ! BAD; sheet -1 0 1 ! BAD; sheet 4 0 1 ! BAD; sheet 0 -2 1 ! BAD; sheet 0 2 1 ! BAD
            sheet 0 0 24 = 24; sheet 3 1 24 = 24; sheet 1 0 0 = 0; sheet 2 1 0 = 0; sheet 0 0 25 ! BAD; sheet 0 0 -1 ! SIZE; mark 0 23 7 = 1; mark 0 24 7 ! INDEX; mark 3 23 7 = 1; mark 3 24 7 ! INDEX; mark 1 0 7 ! INDEX; mark 2 0 7 ! INDEX
            mark 0 0 40000 = 1; mark 3 0 40000 = 1; lay 0 2 0 = 0; lay 1 2 3 = 0; item 0 0 = -25536; item 1 0 = 40000; item 0 23 = 7; item 1 23 = 7; sheet 0 -1 0 = 0; table 0 0 ! NOTHING
            """);
        s.holds("terms 5", "A place of floats may be NO NUMBER.", """
            sheet 0 1 2 = 2; mark 0 0 NONE = 1; lay 0 2 0 = 0; item 0 0 ! KIND; item 0 1 = 0; mark 0 0 0 = 1; lay 0 2 0 = 2; item 0 0 = 0; sheet 1 0 2 = 2; mark 1 0 NONE ! KIND
            """);
        s.holds("terms 5", "SLOTS 0 .. 4 each hold nothing (at first), a PART (as it is then, for good), a SHEET (a row of its own, as it was then), or a number.", """
            ask 0 0 ! NOTHING; ask 4 0 ! NOTHING; ask -1 0 ! BAD; ask 5 0 ! BAD; keep = 0; part 1 20 5 1 = 0; part 0 30 5 1 = 1; lay 0 1 0 = 0; lay 1 1 1 = 0
            set 0 1 9 = 20; set 0 2 1 = 5; turns 0 5 = 1; ask 0 1 = 25; ask 0 5 ! KIND; ask 1 0 = 30; back = 0; ask 0 1 = 25; ask 1 0 = 30; part 4 1 0 2 = 0; ask 0 1 = 25; ask 0 4 ! KIND
            sheet 0 0 2 = 2; mark 0 1 7 = 1; lay 2 2 0 = 0; lay 3 2 0 = 0; mark 0 1 8 = 1; item 2 1 = 7; lay 3 2 0 = 2; item 3 1 = 8; item 2 1 = 7; sheet 0 1 1 = 1; item 2 1 = 7; sheet 0 -1 0 = 0; item 2 1 = 7; item 3 1 = 8; item 2 2 ! INDEX
            lay 4 3 MIN = 0; rest 4 MAX = -1; lay 4 3 MAX = 3; rest 4 MIN = MAX; lay 4 3 NONE = 3; rest 4 MIN = NONE; lay 4 0 0 = 3; rest 4 1 ! NOTHING; lay 0 0 0 = 1; ask 0 0 ! NOTHING; ask 1 0 = 30
            """);
        s.holds("terms 5", "FINDINGS: NOTHING: a SHEET is MISSING, a SLOT holds nothing;", """
            mark 0 0 0 ! NOTHING; pour 0 ! NOTHING; table 0 0 ! NOTHING; copy 0 0 0 0 0 ! NOTHING; lay 0 2 0 ! NOTHING; ask 0 0 ! NOTHING; item 0 0 ! NOTHING; rest 0 1 ! NOTHING
            sheet 0 0 0 = 0; pour 0 = 0; table 0 0 = NONE; copy 0 0 0 0 0 = 0; lay 0 2 0 = 0; item 0 0 ! INDEX
            """);
        s.holds("terms 5", "INDEX: there is no such place;", """
            sheet 0 0 3 = 3; mark 0 2 1 = 1; mark 0 3 1 ! INDEX; mark 0 0 1 = 1; mark 0 -1 1 ! INDEX; copy 0 0 0 1 2 = 2; copy 0 0 0 1 3 ! INDEX; lay 0 2 0 = 0; item 0 2 = 0; item 0 3 ! INDEX; item 0 0 = 1; item 0 -1 ! INDEX
            """);
        s.holds("terms 5", "SIZE: a number of places is below 0;", """
            sheet 0 0 0 = 0; sheet 0 0 -1 ! SIZE; sheet 0 1 MIN ! SIZE; sheet 0 1 1 = 1; sheet 0 1 -1 ! SIZE; mark 0 0 5 = 1
            """);
        s.holds("terms 5", "KIND: it is none (of a KIND, a number, or another thing).", """
            part 1 2 0 0 = 0; as 0 2 ! KIND; as 0 1 = 2; lay 0 1 0 = 0; ask 0 2 ! KIND; ask 0 1 = 2; item 0 0 ! KIND; rest 0 1 ! KIND
            sheet 0 1 1 = 1; mark 0 0 NONE = 1; lay 1 2 0 = 0; item 1 0 ! KIND; ask 1 0 ! KIND; rest 1 1 ! KIND; lay 2 3 5 = 0; ask 2 0 ! KIND; item 2 0 ! KIND; rest 2 3 = 2
            sheet 1 0 1 = 1; mark 1 0 NONE ! KIND; copy 0 0 1 0 1 ! KIND
            """);
    }

    private static void tables(Sentences s) {
        s.holds("terms 3", "A TABLE of cards by a SHEET (numbers alone): the place with the least, with the greatest number (of several the first),", """
            sheet 0 0 1 = 1; table 0 0 = 0; table 0 1 = 0; sheet 0 0 3 = 3; table 0 0 = 0; table 0 1 = 0; mark 0 1 5 = 1; mark 0 2 5 = 1; table 0 0 = 0; table 0 1 = 1; mark 0 0 6 = 1; table 0 0 = 1; table 0 1 = 0; mark 0 2 4 = 1; table 0 0 = 2
            mark 0 0 -1 = 1; table 0 0 = 0; table 0 1 = 1; mark 0 1 32767 = 1; mark 0 2 -32768 = 1; table 0 0 = 2; table 0 1 = 1
            sheet 1 1 4 = 4; mark 1 0 NONE = 1; mark 1 3 NONE = 1; table 1 0 = 1; table 1 1 = 1; mark 1 2 -1 = 1; table 1 0 = 2; table 1 1 = 1; mark 1 1 -99999 = 1; table 1 0 = 1; table 1 1 = 2; mark 1 3 99999 = 1; table 1 1 = 3
            sheet 2 0 24 = 24; mark 2 23 1 = 1; table 2 1 = 23; mark 2 23 -1 = 1; table 2 0 = 23; table 2 1 = 0; sheet 2 1 24 = 24; mark 2 23 -99999 = 1; table 2 0 = 23
            """);
        s.holds("terms 3", "how many places are CARDS (1, 2, 3, 5, 8, 13, 21, 34, 55, 89),", """
            sheet 0 0 10 = 10; table 0 2 = 0; mark 0 0 1 = 1; mark 0 1 2 = 1; mark 0 2 3 = 1; mark 0 3 5 = 1; mark 0 4 8 = 1; table 0 2 = 5; mark 0 5 13 = 1; mark 0 6 21 = 1; mark 0 7 34 = 1; mark 0 8 55 = 1; mark 0 9 89 = 1; table 0 2 = 10
            mark 0 0 0 = 1; mark 0 1 4 = 1; mark 0 2 6 = 1; mark 0 3 7 = 1; mark 0 4 9 = 1; mark 0 5 12 = 1; mark 0 6 14 = 1; mark 0 7 20 = 1; mark 0 8 22 = 1; mark 0 9 -1 = 1; table 0 2 = 0
            mark 0 0 33 = 1; mark 0 1 35 = 1; mark 0 2 54 = 1; mark 0 3 56 = 1; mark 0 4 88 = 1; mark 0 5 90 = 1; mark 0 6 144 = 1; mark 0 7 -8 = 1; table 0 2 = 0; mark 0 7 65544 = 1; table 0 2 = 1      # its lowest 16 bits are 8
            new; sheet 0 1 24 = 24; mark 0 0 NONE = 1; mark 0 23 89 = 1; mark 0 22 89 = 1; table 0 2 = 2; mark 0 22 99999 = 1; table 0 2 = 1
            """);
        s.holds("terms 3", "the number in the middle (of n in order, from 0 on, the one with number (n - 1) / 2).", """
            sheet 0 0 1 = 1; mark 0 0 9 = 1; table 0 3 = 9; sheet 0 0 2 = 2; mark 0 0 9 = 1; mark 0 1 4 = 1; table 0 3 = 4; sheet 0 0 3 = 3; mark 0 0 9 = 1; mark 0 1 4 = 1; mark 0 2 6 = 1; table 0 3 = 6
            sheet 0 0 4 = 4; mark 0 0 9 = 1; mark 0 1 4 = 1; mark 0 2 6 = 1; mark 0 3 8 = 1; table 0 3 = 6; mark 0 1 6 = 1; table 0 3 = 6; mark 0 3 6 = 1; table 0 3 = 6; mark 0 2 -5 = 1; table 0 3 = 6; mark 0 0 -32768 = 1; table 0 3 = -5
            sheet 0 0 3 = 3; mark 0 0 4 = 1; mark 0 1 5 = 1; mark 0 2 6 = 1; table 0 3 = 5; mark 0 1 4 = 1; table 0 3 = 4; mark 0 1 6 = 1; table 0 3 = 6; mark 0 0 7 = 1; table 0 3 = 6
            new; sheet 0 1 24 = 24; table 0 3 = 0; mark 0 0 1 = 1; table 0 3 = 0; mark 0 23 -99999 = 1; table 0 3 = 0
            sheet 1 1 5 = 5; mark 1 0 NONE = 1; mark 1 1 99999 = 1; mark 1 2 NONE = 1; mark 1 3 -99999 = 1; mark 1 4 NONE = 1; table 1 3 = -99999; mark 1 4 7 = 1; table 1 3 = 7; mark 1 3 NONE = 1; table 1 3 = 7; mark 1 4 NONE = 1; table 1 3 = 99999
            """);
    }

    private static void sheetCalls(Sentences s) {
        s.holds("promise 28", "A SHEET becomes a row of n places of a sort, all 0 (sort -1: MISSING, n any): n (0).", """
            sheet 0 0 1 = 1; mark 0 0 9 = 1; sheet 0 0 2 = 2; lay 0 2 0 = 0; item 0 0 = 0; item 0 1 = 0; item 0 2 ! INDEX; sheet 0 1 24 = 24; mark 0 23 NONE = 1; sheet 0 1 24 = 24; lay 0 2 0 = 2; item 0 23 = 0; sheet 0 0 0 = 0; lay 0 2 0 = 2; item 0 0 ! INDEX
            mark 0 0 9 ! INDEX; sheet 0 0 24 = 24; mark 0 0 9 = 1; sheet 0 -1 9 = 0; table 0 0 ! NOTHING; sheet 0 -1 0 = 0; sheet 0 -1 -1 = 0; sheet 0 -1 25 = 0; sheet 0 -1 MIN = 0; sheet 0 -1 MAX = 0; table 0 0 ! NOTHING
            sheet 0 0 3 = 3; lay 0 2 0 = 2; item 0 0 = 0; sheet 3 1 1 = 1; table 1 0 ! NOTHING; table 2 0 ! NOTHING; table 3 0 = 0
            """);
        s.holds("promise 28", "BAD: sheet, sort, n above 24; SIZE.", """
            sheet -1 0 1 ! BAD; sheet 4 0 1 ! BAD; sheet MIN 0 1 ! BAD; sheet MAX 0 1 ! BAD; sheet 0 -2 1 ! BAD; sheet 0 2 1 ! BAD; sheet 0 MIN 1 ! BAD; sheet 0 MAX 1 ! BAD; sheet 0 0 25 ! BAD; sheet 0 1 25 ! BAD; sheet 0 0 MAX ! BAD
            sheet 0 0 -1 ! SIZE; sheet 0 1 -1 ! SIZE; sheet 0 1 MIN ! SIZE; sheet 4 0 -1 ! BAD; sheet -1 1 -1 ! BAD; sheet 0 2 -1 ! BAD; sheet 0 -2 -1 ! BAD; sheet 4 -1 0 ! BAD; sheet -1 -1 0 ! BAD; table 0 0 ! NOTHING
            sheet 3 0 24 = 24; sheet 0 1 0 = 0; sheet 3 0 25 ! BAD; sheet 3 0 -1 ! SIZE; mark 3 23 1 = 1
            """);
        s.holds("promise 29", "A place of a SHEET becomes v (of shorts its lowest 16 bits; of floats v, -99999 .. 99999; NONE: NO NUMBER): 1.", """
            sheet 0 0 3 = 3; mark 0 0 32767 = 1; mark 0 1 32768 = 1; mark 0 2 65535 = 1; lay 0 2 0 = 0; item 0 0 = 32767; item 0 1 = -32768; item 0 2 = -1
            mark 0 0 65536 = 1; mark 0 1 -32768 = 1; mark 0 2 -32769 = 1; lay 0 2 0 = 2; item 0 0 = 0; item 0 1 = -32768; item 0 2 = 32767
            mark 0 0 MIN = 1; mark 0 1 MAX = 1; mark 0 2 BAD = 1; lay 0 2 0 = 2; item 0 0 = 0; item 0 1 = -1; item 0 2 = 13823; mark 0 0 100000 = 1; lay 0 2 0 = 2; item 0 0 = -31072
            sheet 1 1 3 = 3; mark 1 0 99999 = 1; mark 1 1 -99999 = 1; mark 1 2 NONE = 1; lay 1 2 1 = 0; item 1 0 = 99999; item 1 1 = -99999; item 1 2 ! KIND; mark 1 0 40000 = 1; mark 1 1 0 = 1; lay 1 2 1 = 2; item 1 0 = 40000; item 1 1 = 0
            """);
        s.holds("promise 29", "BAD: sheet; NOTHING; INDEX; KIND: NONE in a row of shorts; BAD: v of floats.", """
            mark -1 0 0 ! BAD; mark 4 0 0 ! BAD; mark MIN 0 0 ! BAD; mark MAX 0 0 ! BAD; mark 4 -1 NONE ! BAD; mark 0 0 0 ! NOTHING; mark 0 -1 NONE ! NOTHING; mark 0 0 100000 ! NOTHING
            sheet 0 0 2 = 2; mark 0 -1 0 ! INDEX; mark 0 2 0 ! INDEX; mark 0 MIN 0 ! INDEX; mark 0 MAX 0 ! INDEX; mark 0 2 NONE ! INDEX; mark 0 1 NONE ! KIND; mark 0 1 5 = 1; mark 0 1 NONE ! KIND; mark 0 1 100000 = 1
            sheet 1 1 2 = 2; mark 1 2 100000 ! INDEX; mark 1 -1 NONE ! INDEX; mark 1 2 NONE ! INDEX; mark 1 1 100000 ! BAD; mark 1 1 -100000 ! BAD; mark 1 1 MIN ! BAD; mark 1 1 MAX ! BAD; mark 1 1 -1000000004 ! BAD; mark 1 1 -1000000006 ! BAD; mark 1 1 99999 = 1
            sheet 2 0 0 = 0; mark 2 0 NONE ! INDEX; mark 2 0 0 ! INDEX; sheet 2 1 0 = 0; mark 2 0 100000 ! INDEX
            """);
    }

    private static void rowCalls(Sentences s) {
        s.holds("promise 30", "GUESSES of PARTS, by numbers, become the places of a SHEET from 0 on (each held within 0 .. 99; NO NUMBER, and beyond the SHEET: they stay): how many are otherwise then.", """
            sheet 0 0 24 = 24; pour 0 = 0; part 0 10 0 0 = 0; part 0 20 0 0 = 1; part 0 30 0 0 = 2; mark 0 0 10 = 1; mark 0 1 99 = 1; mark 0 2 98 = 1; pour 0 = 2; told 0 1 = 10; told 1 1 = 99; told 2 1 = 98; pour 0 = 0
            mark 0 0 100 = 1; mark 0 1 100 = 1; mark 0 2 0 = 1; pour 0 = 2; told 0 1 = 99; told 1 1 = 99; told 2 1 = 0; mark 0 0 -1 = 1; mark 0 1 1 = 1; mark 0 2 -1 = 1; pour 0 = 2; told 0 1 = 0; told 1 1 = 1; told 2 1 = 0
            mark 0 0 32767 = 1; mark 0 1 -32768 = 1; pour 0 = 2; told 0 1 = 99; told 1 1 = 0
            sheet 1 1 2 = 2; mark 1 0 NONE = 1; mark 1 1 50 = 1; pour 1 = 1; told 0 1 = 99; told 1 1 = 50; told 2 1 = 0; mark 1 0 99999 = 1; mark 1 1 NONE = 1; pour 1 = 0; mark 1 0 -99999 = 1; pour 1 = 1; told 0 1 = 0; told 1 1 = 50
            sheet 1 0 0 = 0; pour 1 = 0; told 0 1 = 0; told 1 1 = 50
            new; 10 * part 0 5 0 0; sheet 0 0 9 = 9; pour 0 = 9; told 8 1 = 0; told 9 1 = 5; sheet 0 0 10 = 10; mark 0 9 7 = 1; pour 0 = 1; told 9 1 = 7; told 0 1 = 0; sheet 0 0 24 = 24; pour 0 = 1; told 9 1 = 0
            """);
        s.holds("promise 30", "BAD; NOTHING.", """
            pour -1 ! BAD; pour 4 ! BAD; pour MIN ! BAD; pour MAX ! BAD; pour 0 ! NOTHING; pour 3 ! NOTHING; sheet 3 1 1 = 1; pour 3 = 0; pour 2 ! NOTHING; sheet 3 -1 0 = 0; pour 3 ! NOTHING
            """);
        s.holds("promise 31", "A TABLE by a SHEET: what 0 the place with the least, 1 with the greatest, 2 how many are CARDS, 3 the one in the middle.", """
            sheet 3 1 5 = 5; mark 3 0 8 = 1; mark 3 1 NONE = 1; mark 3 2 4 = 1; mark 3 3 89 = 1; mark 3 4 90 = 1; table 3 0 = 2; table 3 1 = 4; table 3 2 = 2; table 3 3 = 8
            """);
        s.holds("promise 31", "BAD; NOTHING; NONE: it has no numbers.", """
            table -1 0 ! BAD; table 4 0 ! BAD; table MIN 0 ! BAD; table MAX 0 ! BAD; table 0 -1 ! BAD; table 0 4 ! BAD; table 0 MIN ! BAD; table 0 MAX ! BAD; table 0 0 ! NOTHING; table 3 3 ! NOTHING
            sheet 0 0 0 = 0; table 0 0 = NONE; table 0 1 = NONE; table 0 2 = NONE; table 0 3 = NONE; table 0 4 ! BAD; table 0 -1 ! BAD; sheet 1 1 0 = 0; table 1 2 = NONE
            sheet 0 1 2 = 2; mark 0 0 NONE = 1; table 0 0 = 1; table 0 1 = 1; table 0 2 = 0; table 0 3 = 0; mark 0 1 NONE = 1; table 0 0 = NONE; table 0 1 = NONE; table 0 2 = NONE; table 0 3 = NONE; table 0 4 ! BAD
            """);
    }

    private static void copyCalls(Sentences s) {
        s.holds("promise 32", "So many places of a SHEET come to another one (or the same), as they were: many.", """
            sheet 0 0 4 = 4; mark 0 0 1 = 1; mark 0 1 2 = 1; mark 0 2 3 = 1; mark 0 3 4 = 1; sheet 1 0 3 = 3; copy 0 1 1 0 3 = 3; lay 0 2 1 = 0; item 0 0 = 2; item 0 1 = 3; item 0 2 = 4
            copy 0 0 1 2 1 = 1; lay 0 2 1 = 2; item 0 0 = 2; item 0 1 = 3; item 0 2 = 1; copy 0 4 1 3 0 = 0; copy 0 0 1 0 0 = 0
            copy 0 0 0 1 3 = 3; lay 0 2 0 = 2; item 0 0 = 1; item 0 1 = 1; item 0 2 = 2; item 0 3 = 3; copy 0 1 0 0 3 = 3; lay 0 2 0 = 2; item 0 0 = 1; item 0 1 = 2; item 0 2 = 3; item 0 3 = 3; copy 0 0 0 0 4 = 4
            sheet 2 1 24 = 24; mark 2 0 NONE = 1; mark 2 1 99999 = 1; copy 2 0 2 1 23 = 23; lay 1 2 2 = 0; item 1 0 ! KIND; item 1 1 ! KIND; item 1 2 = 99999; item 1 3 = 0; sheet 3 1 24 = 24; copy 2 0 3 0 24 = 24; lay 1 2 3 = 2; item 1 1 ! KIND; item 1 2 = 99999
            """);
        s.holds("promise 32", "BAD; NOTHING; KIND: they are not of one sort; INDEX. (From a SHEET, its place, to a SHEET, its place.)", """
            sheet 0 0 3 = 3; sheet 1 1 3 = 3; sheet 2 0 2 = 2; copy -1 0 0 0 0 ! BAD; copy 4 0 0 0 0 ! BAD; copy 0 0 -1 0 0 ! BAD; copy 0 0 4 0 0 ! BAD; copy MIN 0 0 0 0 ! BAD; copy 0 0 MAX 0 0 ! BAD; copy 4 0 3 0 0 ! BAD; copy 3 0 4 0 0 ! BAD; copy 1 0 4 9 9 ! BAD
            copy 3 0 0 0 0 ! NOTHING; copy 0 0 3 0 0 ! NOTHING; copy 3 0 3 0 0 ! NOTHING; copy 3 -1 1 9 -1 ! NOTHING; copy 1 -1 3 9 -1 ! NOTHING; copy 0 0 1 0 0 ! KIND; copy 1 0 0 0 1 ! KIND; copy 0 -1 1 0 1 ! KIND; copy 1 0 0 9 1 ! KIND; copy 1 0 0 0 -1 ! KIND
            copy 0 -1 2 0 1 ! INDEX; copy 0 0 2 -1 1 ! INDEX; copy 0 0 2 0 2 = 2; copy 0 0 2 0 3 ! INDEX; copy 0 1 2 0 2 = 2; copy 0 2 2 0 2 ! INDEX; copy 0 0 2 1 1 = 1; copy 0 0 2 1 2 ! INDEX; copy 0 3 2 0 0 = 0; copy 0 4 2 0 0 ! INDEX; copy 0 0 2 2 0 = 0; copy 0 0 2 3 0 ! INDEX
            copy 0 -1 2 0 0 ! INDEX; copy 0 0 2 -1 0 ! INDEX; copy 0 0 2 0 -1 ! INDEX; copy 0 3 2 2 -1 ! INDEX; copy 0 MAX 2 0 1 ! INDEX; copy 0 0 2 MAX 1 ! INDEX; copy 0 0 2 0 MAX ! INDEX; copy 0 MAX 0 MAX MAX ! INDEX; copy 0 MIN 0 0 MIN ! INDEX; copy 0 0 0 0 MIN ! INDEX; copy 0 1 0 1 MAX ! INDEX
            sheet 0 0 0 = 0; copy 0 0 0 0 0 = 0; copy 0 0 0 0 1 ! INDEX; copy 0 1 0 0 0 ! INDEX
            """);
    }

    private static void slotCalls(Sentences s) {
        s.holds("promise 33", "A SLOT holds: thing 0 nothing, 1 PART k, 2 SHEET k, 3 the number k: what it held (0 .. 3).", """
            part 0 5 0 0 = 0; sheet 0 0 0 = 0; lay 0 0 0 = 0; lay 0 1 0 = 0; lay 0 1 0 = 1; lay 0 2 0 = 1; lay 0 2 0 = 2; lay 0 3 0 = 2; lay 0 3 9 = 3; rest 0 100 = 9; lay 0 0 MIN = 3; lay 0 0 MAX = 0; lay 0 0 -1 = 0
            lay 4 3 MIN = 0; lay 4 1 0 = 3; ask 4 0 = 5; lay 4 3 MAX = 1; rest 4 MIN = MAX; lay 4 2 0 = 3; lay 4 0 0 = 2; 9 * part 0 6 0 0; lay 4 1 9 = 0; ask 4 0 = 6; sheet 3 1 24 = 24; mark 3 23 8 = 1; lay 3 2 3 = 0; item 3 23 = 8
            """);
        s.holds("promise 33", "BAD: slot, thing, k; NOTHING: that SHEET is MISSING.", """
            lay -1 0 0 ! BAD; lay 5 0 0 ! BAD; lay MIN 0 0 ! BAD; lay MAX 0 0 ! BAD; lay 0 -1 0 ! BAD; lay 0 4 0 ! BAD; lay 0 MIN 0 ! BAD; lay 0 MAX 0 ! BAD; lay 0 1 0 ! BAD; part 0 5 0 0 = 0; lay 0 1 1 ! BAD; lay 0 1 -1 ! BAD; lay 0 1 MAX ! BAD; lay 0 1 MIN ! BAD
            lay 0 2 -1 ! BAD; lay 0 2 4 ! BAD; lay 0 2 MIN ! BAD; lay 0 2 MAX ! BAD; lay 0 2 0 ! NOTHING; lay 0 2 3 ! NOTHING; lay 5 2 0 ! BAD; lay -1 2 0 ! BAD; lay 0 3 7 = 0; lay 0 2 0 ! NOTHING; lay 0 1 1 ! BAD; lay 0 4 0 ! BAD; rest 0 10 = 7
            lay 1 1 0 = 0; lay 1 1 1 ! BAD; lay 1 2 0 ! NOTHING; ask 1 0 = 5; 9 * part 0 6 0 0; lay 1 1 10 ! BAD; ask 1 0 = 5
            """);
        s.holds("promise 34", "WORTH of the PART in a SLOT, taken for one of a KIND (0 .. 5). BAD; NOTHING; KIND: it is no PART, or not of that KIND, nor of one under it.", """
            part 0 20 7 1 = 0; part 1 20 7 1 = 1; part 2 20 7 1 = 2; part 3 20 7 1 = 3; part 4 20 7 1 = 4; part 5 20 7 1 = 5; lay 0 1 1 = 0; lay 1 1 2 = 0; lay 2 1 3 = 0; lay 3 1 4 = 0; lay 4 1 5 = 0
            ask 0 0 = 27; ask 0 1 = 27; ask 0 2 ! KIND; ask 0 3 ! KIND; ask 0 4 ! KIND; ask 0 5 ! KIND; ask 1 0 = 30; ask 1 1 ! KIND; ask 1 2 = 30; ask 1 3 ! KIND; ask 1 4 ! KIND; ask 1 5 ! KIND
            ask 2 0 = 54; ask 2 1 = 54; ask 2 2 ! KIND; ask 2 3 = 54; ask 2 4 ! KIND; ask 2 5 ! KIND; ask 3 0 = 31; ask 3 1 ! KIND; ask 3 2 = 31; ask 3 3 ! KIND; ask 3 4 = 31; ask 3 5 ! KIND
            ask 4 0 = 13; ask 4 1 ! KIND; ask 4 2 ! KIND; ask 4 3 ! KIND; ask 4 4 ! KIND; ask 4 5 = 13; lay 4 1 0 = 1; ask 4 0 = 20; ask 4 1 ! KIND; ask 4 5 ! KIND
            ask -1 0 ! BAD; ask 5 0 ! BAD; ask MIN 0 ! BAD; ask MAX 0 ! BAD; ask 0 -1 ! BAD; ask 0 6 ! BAD; ask 0 MIN ! BAD; ask 0 MAX ! BAD; lay 0 0 0 = 1; ask 0 0 ! NOTHING; ask 0 5 ! NOTHING; ask 0 6 ! BAD; ask 0 -1 ! BAD
            lay 0 3 20 = 0; ask 0 0 ! KIND; ask 0 6 ! BAD; sheet 0 0 1 = 1; lay 0 2 0 = 3; ask 0 0 ! KIND; ask 0 6 ! BAD
            """);
        s.holds("promise 35", "A place of the SHEET in a SLOT. BAD: slot; NOTHING; KIND: it is no SHEET; INDEX; KIND: NO NUMBER.", """
            item -1 0 ! BAD; item 5 0 ! BAD; item MIN 0 ! BAD; item MAX 0 ! BAD; item 5 -1 ! BAD; item 0 0 ! NOTHING; item 4 0 ! NOTHING; item 0 -1 ! NOTHING; lay 0 3 5 = 0; item 0 0 ! KIND; item 0 -1 ! KIND; part 0 1 1 1 = 0; lay 0 1 0 = 3; item 0 0 ! KIND; item 0 24 ! KIND
            sheet 0 1 3 = 3; mark 0 0 -99999 = 1; mark 0 1 NONE = 1; mark 0 2 99999 = 1; lay 0 2 0 = 1; item 0 0 = -99999; item 0 1 ! KIND; item 0 2 = 99999; item 0 3 ! INDEX; item 0 -1 ! INDEX; item 0 MIN ! INDEX; item 0 MAX ! INDEX
            sheet 0 0 0 = 0; lay 4 2 0 = 0; item 4 0 ! INDEX; sheet 0 0 24 = 24; mark 0 23 -32768 = 1; lay 4 2 0 = 2; item 4 23 = -32768; item 4 24 ! INDEX; lay 4 0 0 = 2; item 4 23 ! NOTHING
            """);
        s.holds("promise 36", "The rest of the number in a SLOT by n. BAD: slot; NOTHING; KIND: it is no number; NO: n is 0.", """
            rest -1 1 ! BAD; rest 5 1 ! BAD; rest MIN 1 ! BAD; rest MAX 1 ! BAD; rest 5 0 ! BAD; rest -1 0 ! BAD; rest 0 1 ! NOTHING; rest 4 1 ! NOTHING; rest 0 0 ! NOTHING; part 0 1 1 1 = 0; lay 0 1 0 = 0; rest 0 1 ! KIND; rest 0 0 ! KIND; sheet 0 0 1 = 1; lay 0 2 0 = 1; rest 0 1 ! KIND; rest 0 0 ! KIND
            lay 0 3 17 = 2; rest 0 0 ! NO; rest 0 1 = 0; rest 0 -1 = 0; rest 0 5 = 2; rest 0 -5 = 2; rest 0 17 = 0; rest 0 18 = 17; lay 0 3 -17 = 3; rest 0 5 = -2; rest 0 -5 = -2; rest 0 0 ! NO
            lay 0 3 MIN = 3; rest 0 -1 = 0; rest 0 MIN = 0; rest 0 MAX = -1; rest 0 10 = -8; lay 0 3 MAX = 3; rest 0 MIN = MAX; rest 0 MAX = 0; lay 0 3 0 = 3; rest 0 7 = 0; rest 0 0 ! NO
            """);
    }
}
