/** Promises 1 to 12, and the terms that they rest on: each sentence at its bounds. */
final class BoundsOfParts {
    private BoundsOfParts() { }

    static void all(Sentences s) {
        refusals(s);
        parts(s);
        book(s);
        says(s);
        worth(s);
        newObject(s);
        partCalls(s);
        bookCalls(s);
        drawCalls(s);
    }

    private static void refusals(Sentences s) {
        s.holds("terms 0", "All numbers are whole; / cuts towards 0.", """
            part 3 1 1 0 = 0; told 0 5 = 1          # two thirds of 2
            part 3 2 2 0 = 1; told 1 5 = 2          # of 4
            part 3 0 1 0 = 2; told 2 5 = 0          # of 1
            text "fine (0-7)/2" = 0; fine 0 = -3
            text "fine 7/(0-2)" = 1; fine 0 = -3
            text "fine (0-7)/(0-2)" = 2; fine 0 = 3
            text "fine 1/2" = 3; fine 0 = 0
            text "fine (0-1)/2" = 4; fine 0 = 0
            """);
        s.holds("terms 0", "A call that is refused answers one of BAD, NO, FULL, or a FINDING, of several the one that stands first with it", """
            9 * part 0 1 1 1 = 0..8; part 6 1 1 1 ! BAD; part 0 1 1 1 = 9; part 6 1 1 1 ! BAD; part 0 1 1 1 ! FULL   # BAD; FULL
            as 10 9 ! BAD; as 0 6 ! BAD; as 0 5 ! KIND                                 # BAD; KIND
            line 0 3 ! BAD; line 0 2 = NONE                                            # BAD; NONE
            why 3 ! BAD; why 2 = NONE
            sheet 4 0 -1 ! BAD; sheet 0 2 -1 ! BAD; sheet 0 0 -1 ! SIZE                # BAD; SIZE
            mark 4 24 NONE ! BAD; mark 0 24 NONE ! NOTHING                             # BAD; NOTHING; INDEX; KIND; BAD
            sheet 0 0 2 = 2; mark 0 2 NONE ! INDEX; mark 0 1 NONE ! KIND
            sheet 1 1 2 = 2; mark 1 2 100000 ! INDEX; mark 1 1 100000 ! BAD
            table 3 4 ! BAD; table 3 3 ! NOTHING                                       # BAD; NOTHING; NONE
            copy 4 9 3 9 9 ! BAD; copy 0 9 3 9 9 ! NOTHING; copy 0 9 1 9 9 ! KIND; copy 0 9 0 9 9 ! INDEX
            lay 5 2 3 ! BAD; lay 0 2 4 ! BAD; lay 0 2 3 ! NOTHING                      # BAD; NOTHING
            ask 0 6 ! BAD; ask 0 5 ! NOTHING; lay 0 1 0 = 0; ask 0 6 ! BAD; ask 0 5 ! KIND
            item 5 -1 ! BAD; item 1 -1 ! NOTHING; item 0 -1 ! KIND
            rest 5 0 ! BAD; rest 1 0 ! NOTHING; rest 0 0 ! KIND; lay 0 3 7 = 1; rest 0 0 ! NO
            check 3 1 ! BAD; check 0 31 ! BAD; check 0 1 ! NO                          # BAD; NO
            14 * text "say g" = 0..13; text "say" fault 3; text "say g" ! FULL         # a FAULT; FULL
            """);
        s.holds("terms 0", "and changes nothing (but the tape and the numbers that wait, where told).", """
            7 * part 1 9 9 2 = 0..6; ahead 2 3 1 = 0; 20 * book 1 7 8; seed 77 = 1; text "say g" = 0; keep = 7
            sheet 0 0 3 = 3; mark 0 1 8 = 1; sheet 1 1 3 = 3; mark 1 1 NONE = 1; lay 0 1 2 = 0; lay 1 2 1 = 0; lay 2 3 -5 = 0
            text "wait 1" = 1; set 0 1 8 = 9; book 2 3 4 = 20; seed 78 = 77; part 2 2 2 2 = 7
            tell 5 = 1; feed 1 2 3 = 12; trim 13 ! BAD; trim -1 ! BAD; count 5 = 12; count 4 = 1
            part 0 0 11 0 ! BAD; turns 0 6 ! BAD; turns 8 0 ! BAD; set 0 1 100 ! BAD; set 0 2 11 ! BAD; set 0 3 3 ! BAD; set 0 4 0 ! BAD; set 8 1 1 ! BAD
            ahead 3 2 1 ! BAD; ahead 2 3 2 ! BAD; ahead 2 3 -1 ! BAD; ahead 0 8 1 ! BAD; book 3 0 0 ! BAD; book 0 10000 0 ! BAD; book 0 0 10000 ! BAD
            deal 0 ! BAD; deal 11 ! BAD; works 3 1 ! BAD; works 0 0 ! BAD; works 0 41 ! BAD
            sheet 0 0 -1 ! SIZE; sheet 0 1 25 ! BAD; sheet 0 2 1 ! BAD; mark 0 1 NONE ! KIND; mark 0 3 1 ! INDEX; mark 1 1 100000 ! BAD
            copy 0 0 1 0 1 ! KIND; copy 0 0 0 1 3 ! INDEX; copy 0 0 2 0 0 ! NOTHING; pour 2 ! NOTHING; pour 4 ! BAD
            lay 0 1 8 ! BAD; lay 0 2 4 ! BAD; lay 0 2 3 ! NOTHING; lay 0 4 0 ! BAD
            count 5 = 12; text ! -100; count 5 = 0                                     # the tape is used up
            count 4 = 1; check 3 1 ! BAD; count 4 = 0                                  # no number waits
            new; tell 1 = 1; check 0 1 ! NO; count 4 = 0; feed 0 0 0 = 12; check 0 1 ! NO; count 5 = 12
            tell 1 = 1; text ! -100; count 4 = 1
            """);
        s.holds("terms 0", "NONE: there is none.", """
            line 0 0 = NONE; why 0 = NONE; sheet 0 0 0 = 0; table 0 0 = NONE
            """);
        s.holds("terms 0", "Sets of PARTS are told as bits (bit k for number k).", """
            10 * part 0 0 0 0 = 0..9; told 9 4 = 0
            ahead 0 9 1 = 0; told 9 4 = 1; ahead 8 9 1 = 0; told 9 4 = 257; ahead 0 9 0 = 1; told 9 4 = 256
            ahead 0 1 1 = 0; told 1 4 = 1; critical = 1023
            set 9 1 5 = 0; critical = 768; ahead 8 9 0 = 1; critical = 512; set 0 1 5 = 0; critical = 515; set 9 1 4 = 5; critical = 3
            """);
        s.holds("terms 0", "(Where a long is told, BAD is it, too.)", """
            odds -1 0 ! -1000000001; odds 10000 1 ! -1000000001; odds 0 2 ! -1000000001; mean 2 ! -1000000001; mean -1 ! -1000000001
            """);
    }

    private static void parts(Sentences s) {
        s.holds("terms 1", "PARTS, 10 at most, numbered from 0", """
            told 0 0 ! BAD; part 0 7 0 0 = 0; told 0 1 = 7; told 1 1 ! BAD
            9 * part 1 8 1 1 = 1..9; told 9 1 = 8; told 10 1 ! BAD; told -1 1 ! BAD; part 0 7 0 0 ! FULL; count 0 = 10
            """);
        s.holds("terms 1", "GUESS 0 .. 99 (weeks), TAIL 0 .. 10, SORT 0 .. 2", """
            part 0 -1 0 0 ! BAD; part 0 0 0 0 = 0; told 0 1 = 0; part 0 99 0 0 = 1; told 1 1 = 99; part 0 100 0 0 ! BAD
            part 0 0 -1 0 ! BAD; told 0 2 = 0; part 0 0 10 0 = 2; told 2 2 = 10; part 0 0 11 0 ! BAD
            part 0 0 0 -1 ! BAD; told 0 3 = 0; part 0 0 0 2 = 3; told 3 3 = 2; part 0 0 0 3 ! BAD
            """);
        s.holds("terms 1", "AHEAD: PARTS with lesser numbers that must be done ahead of it (none at first)", """
            part 0 3 0 0 = 0; part 0 4 0 0 = 1; told 0 4 = 0; told 1 4 = 0; end = 4
            ahead 0 0 1 ! BAD; ahead 1 1 1 ! BAD; ahead 1 0 1 ! BAD; ahead 0 1 1 = 0; told 1 4 = 1; told 1 8 = 3; end = 7
            new; keep = 0; 2 * part 0 3 0 0; ahead 0 1 1 = 0; back = 0; 2 * part 0 3 0 0; told 1 4 = 0; end = 3
            back = 0; 2 * part 0 3 0 0; ahead 0 1 1 = 0; back = 0; deal 2 = 2; told 1 4 = 0
            """);
        s.holds("terms 1", "and of KINDS: 0 PART; 1 SUMMED, 2 LIKE, 5 CARD, under PART; 3 WISHED, under SUMMED; 4 SORTED, under LIKE (all are PARTS).", """
            part -1 0 0 0 ! BAD; part 6 0 0 0 ! BAD
            part 0 10 0 0 = 0; part 1 11 0 0 = 1; part 2 12 0 0 = 2; part 3 13 0 0 = 3; part 4 14 0 0 = 4; part 5 15 0 0 = 5
            as 0 0 = 10; as 0 1 ! KIND; as 0 2 ! KIND; as 0 3 ! KIND; as 0 4 ! KIND; as 0 5 ! KIND
            as 1 0 = 11; as 1 1 = 11; as 1 2 ! KIND; as 1 3 ! KIND; as 1 4 ! KIND; as 1 5 ! KIND
            as 2 0 = 12; as 2 1 ! KIND; as 2 2 = 12; as 2 3 ! KIND; as 2 4 ! KIND; as 2 5 ! KIND
            as 3 0 = 13; as 3 1 = 13; as 3 2 ! KIND; as 3 3 = 13; as 3 4 ! KIND; as 3 5 ! KIND
            as 4 0 = 14; as 4 1 ! KIND; as 4 2 = 14; as 4 3 ! KIND; as 4 4 = 14; as 4 5 ! KIND
            as 5 0 = 15; as 5 1 ! KIND; as 5 2 ! KIND; as 5 3 ! KIND; as 5 4 ! KIND; as 5 5 = 15
            """);
    }

    private static void book(Sentences s) {
        s.holds("terms 1", "THE BOOK: up to 20 LINES (of more the first goes)", """
            count 1 = 0; book 1 100 200 = 1; 19 * book 2 50 60 = 2..20; line 0 1 = 100; line 19 1 = 50; count 1 = 20
            book 0 70 80 = 20; count 1 = 20; line 0 1 = 50; line 18 1 = 50; line 19 0 = 0; line 19 1 = 70; line 19 2 = 80; line 20 0 = NONE
            19 * book 1 7 8 = 20; line 0 0 = 0; line 0 1 = 70; line 0 2 = 80; book 1 7 8 = 20; line 0 0 = 1; line 0 1 = 7; line 0 2 = 8
            new; 19 * book 0 1 1; works 1 1 = 1; count 1 = 20; line 0 1 = 1; works 2 1 = 1; count 1 = 20; line 0 1 = 1; line 18 0 = 1; line 19 0 = 2; line 19 1 = 0
            works 1 19 = 19; line 0 0 = 2; works 1 1 = 1; line 0 0 = 1
            """);
        s.holds("terms 1", "a SORT, what was SAID (0 .. 9999), what it WAS (0 .. 9999).", """
            book -1 1 1 ! BAD; book 3 1 1 ! BAD; book 0 -1 1 ! BAD; book 0 10000 1 ! BAD; book 0 1 -1 ! BAD; book 0 1 10000 ! BAD; count 1 = 0
            book 0 0 9999 = 1; book 2 9999 0 = 2; line 0 0 = 0; line 0 1 = 0; line 0 2 = 9999; line 1 0 = 2; line 1 1 = 9999; line 1 2 = 0
            """);
        s.holds("terms 1", "FACTOR of a SORT, or of all: 100 times the sum of what its LINES WAS by the sum of what was SAID in them (cut)", """
            book 0 3 2 = 1; factor 0 = 66; factor -1 = 66; factor 1 = 100       # 66.6
            book 0 3 3 = 2; factor 0 = 83                                       # 83.3
            book 1 1 5 = 3; factor 1 = 500; factor 0 = 83; factor -1 = 142      # 142.8
            new; 20 * book 1 9999 9999; factor 1 = 100; factor -1 = 100; 20 * book 1 9999 9998; factor 1 = 99
            new; book 2 1 9 = 1; 19 * book 1 1 1; factor -1 = 140; factor 2 = 900; book 1 1 1 = 20; factor -1 = 100; factor 2 = 100
            """);
        s.holds("terms 1", "held within 1 .. 999", """
            book 0 9999 0 = 1; factor 0 = 1; factor -1 = 1
            new; book 0 101 1 = 1; factor 0 = 1                                 # cut: 0
            new; book 0 100 1 = 1; factor 0 = 1; new; book 0 50 1 = 1; factor 0 = 2
            new; book 0 100 998 = 1; factor 0 = 998; new; book 0 100 999 = 1; factor 0 = 999; new; book 0 100 1000 = 1; factor 0 = 999; factor -1 = 999
            new; book 1 1 9999 = 1; factor 1 = 999
            """);
        s.holds("terms 1", "100, if that sum is 0.", """
            factor -1 = 100; factor 0 = 100; factor 1 = 100; factor 2 = 100
            book 0 0 9999 = 1; factor 0 = 100; factor -1 = 100; book 0 0 0 = 2; factor 0 = 100; book 1 1 1 = 3; factor 0 = 100; factor -1 = 999
            book 0 1 0 = 4; factor 0 = 999; new; book 0 0 0 = 1; factor 0 = 100; factor -1 = 100; factor 1 = 100
            """);
    }

    private static void says(Sentences s) {
        s.holds("terms 1", "SAYS: PART: what say gives, held within 0 .. 999 (without a TEXT: GUESS).", """
            part 0 0 9 0 = 0; part 0 99 9 0 = 1; told 0 5 = 0; told 1 5 = 99
            text "say 998" = 0; told 0 5 = 998; text "say 999" = 1; told 0 5 = 999; text "say 1000" = 2; told 0 5 = 999
            text "say 1" = 3; told 0 5 = 1; text "say 0" = 4; told 1 5 = 0; text "say 0-1" = 5; told 1 5 = 0
            text "say 9999*9999*9999" = 6; told 0 5 = 0                         # it wraps below 0
            text "say 0-9999*9999*9999" = 7; told 0 5 = 999
            """);
        s.holds("terms 1", "SUMMED: as PART, and TAIL (999 at most).", """
            part 1 0 0 0 = 0; part 1 99 10 0 = 1; told 0 5 = 0; told 1 5 = 109
            text "say 988" = 0; told 1 5 = 998; text "say 989" = 1; told 1 5 = 999; text "say 990" = 2; told 1 5 = 999; told 0 5 = 990
            text "say 0-5" = 3; told 1 5 = 10; told 0 5 = 0                     # as PART: 0 at least
            """);
        s.holds("terms 1", "WISHED: two thirds (cut) of as SUMMED.", """
            part 3 0 0 0 = 0; told 0 5 = 0; part 3 0 1 0 = 1; told 1 5 = 0; part 3 0 2 0 = 2; told 2 5 = 1; part 3 2 1 0 = 3; told 3 5 = 2
            part 3 99 10 0 = 4; told 4 5 = 72; text "say 989" = 0; told 4 5 = 666; text "say 999" = 1; told 4 5 = 666; told 0 5 = 666
            text "say 0-5" = 2; told 4 5 = 6; told 0 5 = 0
            """);
        s.holds("terms 1", "LIKE: as PART, times FACTOR of all, by 100 (cut; 999 at most).", """
            part 2 7 10 1 = 0; told 0 5 = 7; book 0 2 3 = 1; told 0 5 = 10      # 10.5
            book 1 2 1 = 2; told 0 5 = 7
            new; part 2 10 0 0 = 0; book 1 100 999 = 1; told 0 5 = 99; text "say 100" = 0; told 0 5 = 999; text "say 101" = 1; told 0 5 = 999
            text "say 99" = 2; told 0 5 = 989; text "say 999" = 3; told 0 5 = 999; text "say 0-1" = 4; told 0 5 = 0
            new; part 2 99 0 0 = 0; book 0 100 1 = 1; told 0 5 = 0; text "say 100" = 0; told 0 5 = 1
            """);
        s.holds("terms 1", "SORTED: likewise, with FACTOR of its SORT.", """
            part 4 7 10 1 = 0; book 0 1 9 = 1; told 0 5 = 7; book 1 2 3 = 2; told 0 5 = 10; set 0 3 0 = 1; told 0 5 = 63; set 0 3 2 = 0; told 0 5 = 7
            new; part 4 10 0 1 = 0; book 1 100 999 = 1; book 2 100 1 = 2; text "say 100" = 0; told 0 5 = 999; text "say 101" = 1; told 0 5 = 999
            text "say 99" = 2; told 0 5 = 989; text "say 0-1" = 3; told 0 5 = 0
            """);
        s.holds("terms 1", "CARD: the least of 1, 2, 3, 5, 8, 13, 21, 34, 55, 89 that is no less than as PART says (89, if none is).", """
            part 5 0 10 0 = 0; told 0 5 = 1; set 0 1 1 = 0; told 0 5 = 1; set 0 1 2 = 1; told 0 5 = 2; set 0 1 3 = 2; told 0 5 = 3
            set 0 1 4 = 3; told 0 5 = 5; set 0 1 5 = 4; told 0 5 = 5; set 0 1 6 = 5; told 0 5 = 8; set 0 1 8 = 6; told 0 5 = 8
            set 0 1 9 = 8; told 0 5 = 13; set 0 1 13 = 9; told 0 5 = 13; set 0 1 14 = 13; told 0 5 = 21; set 0 1 21 = 14; told 0 5 = 21
            set 0 1 22 = 21; told 0 5 = 34; set 0 1 34 = 22; told 0 5 = 34; set 0 1 35 = 34; told 0 5 = 55; set 0 1 55 = 35; told 0 5 = 55
            set 0 1 56 = 55; told 0 5 = 89; set 0 1 89 = 56; told 0 5 = 89; set 0 1 90 = 89; told 0 5 = 89
            text "say 999" = 0; told 0 5 = 89; text "say 0-1" = 1; told 0 5 = 1
            """);
    }

    private static void worth(Sentences s) {
        s.holds("terms 1", "WORTH: PART: GUESS. SUMMED: as PART, and TAIL. WISHED: twice as SUMMED. LIKE: 50 less GUESS. SORTED: as LIKE, and SORT. CARD: 13.", """
            part 0 0 10 2 = 0; part 1 0 10 2 = 1; part 2 0 10 2 = 2; part 3 0 10 2 = 3; part 4 0 10 2 = 4; part 5 0 10 2 = 5
            told 0 7 = 0; told 1 7 = 10; told 2 7 = 50; told 3 7 = 20; told 4 7 = 52; told 5 7 = 13
            new; part 0 99 0 0 = 0; part 1 99 0 0 = 1; part 2 99 0 0 = 2; part 3 99 0 0 = 3; part 4 99 0 0 = 4; part 5 99 0 0 = 5
            told 0 7 = 99; told 1 7 = 99; told 2 7 = -49; told 3 7 = 198; told 4 7 = -49; told 5 7 = 13
            text "say 5" = 0; book 0 1 9 = 1; set 3 2 10 = 0; set 4 3 2 = 0         # whatever is said
            told 0 7 = 99; told 1 7 = 99; told 2 7 = -49; told 3 7 = 218; told 4 7 = -47; told 5 7 = 13
            """);
        s.holds("terms 1", "(A KIND that is not named does as the one above it.)", """
            part 0 20 5 1 = 0; book 1 10 15 = 1; book 0 10 5 = 2; told 0 5 = 20; told 0 7 = 20
            turns 0 1 = 0; told 0 5 = 25; told 0 7 = 25; turns 0 3 = 1; told 0 5 = 16; told 0 7 = 50
            turns 0 2 = 3; told 0 5 = 20; told 0 7 = 30; turns 0 4 = 2; told 0 5 = 30; told 0 7 = 31; turns 0 5 = 4; told 0 5 = 21; told 0 7 = 13
            """);
    }

    private static void newObject(Sentences s) {
        s.holds("promise 1", "As told; no PARTS.", """
            count 0 = 0; count 1 = 0; count 2 = 0; count 3 = 0; count 4 = 0; count 5 = 0; count 6 = 1
            told 0 0 ! BAD; line 0 0 = NONE; textTold 0 0 ! BAD; why 0 = NONE; why 1 = NONE; why 2 = NONE; factor -1 = 100; back ! NO
            pour 0 ! NOTHING; pour 1 ! NOTHING; pour 2 ! NOTHING; pour 3 ! NOTHING
            ask 0 0 ! NOTHING; ask 1 0 ! NOTHING; ask 2 0 ! NOTHING; ask 3 0 ! NOTHING; ask 4 0 ! NOTHING
            together = 0; end = 0; critical = 0; staffed 1 = 0; more 1 0 0 = 0; odds 0 0 = 1; odds 0 1 = 1; span 100 = 0; mean 0 = 0; mean 1 = 1; fine 0 = 0
            lay 0 0 0 = 0; trim 0 = 0; text ! -100; check 0 1 ! NO; keep = 0
            """);
    }

    private static void partCalls(Sentences s) {
        s.holds("promise 2", "One more PART: its number. BAD; FULL.", """
            part -1 0 0 0 ! BAD; part 6 0 0 0 ! BAD; part MIN 0 0 0 ! BAD; part MAX 0 0 0 ! BAD
            part 0 -1 0 0 ! BAD; part 0 100 0 0 ! BAD; part 0 MIN 0 0 ! BAD; part 0 MAX 0 0 ! BAD
            part 0 0 -1 0 ! BAD; part 0 0 11 0 ! BAD; part 0 0 MIN 0 ! BAD; part 0 0 MAX 0 ! BAD
            part 0 0 0 -1 ! BAD; part 0 0 0 3 ! BAD; part 0 0 0 MIN ! BAD; part 0 0 0 MAX ! BAD; count 0 = 0
            part 0 0 0 0 = 0; part 5 99 10 2 = 1; told 1 0 = 5; told 1 1 = 99; told 1 2 = 10; told 1 3 = 2
            8 * part 1 2 3 1 = 2..9; part 0 0 0 0 ! FULL; part 6 0 0 0 ! BAD; part 0 100 0 0 ! BAD; part 0 0 11 0 ! BAD; part 0 0 0 3 ! BAD; count 0 = 10
            """);
        s.holds("promise 3", "Of a PART: what 0 KIND, 1 GUESS, 2 TAIL, 3 SORT, 4 AHEAD (a set), 5 SAYS, 6 WAITS, 7 WORTH; by what is said: 8 BEGINS, 9 ENDS, 10 SLACK. BAD.", """
            told 0 0 ! BAD; told 0 10 ! BAD; part 0 5 1 0 = 0; part 1 20 3 2 = 1; part 0 9 0 1 = 2; ahead 0 1 1 = 0; text "wait n*7" = 0
            told 1 0 = 1; told 1 1 = 20; told 1 2 = 3; told 1 3 = 2; told 1 4 = 1; told 1 5 = 23; told 1 6 = 7; told 1 7 = 23; told 1 8 = 12; told 1 9 = 35; told 1 10 = 0
            told 2 8 = 0; told 2 9 = 9; told 2 10 = 26; told 1 11 ! BAD; told 1 -1 ! BAD; told 1 MAX ! BAD; told 1 MIN ! BAD
            told 3 0 ! BAD; told -1 0 ! BAD; told MAX 10 ! BAD; told MIN 10 ! BAD; told 3 11 ! BAD
            new; 10 * part 0 1 0 0; told 9 0 = 0; told 9 10 = 0; told 10 0 ! BAD; told 10 8 ! BAD; told 10 10 ! BAD
            """);
        s.holds("promise 4", "A PART as one of a KIND: GUESS. BAD: part, kind; KIND: it is not of that KIND, nor of one under it.", """
            as 0 0 ! BAD; part 3 44 0 0 = 0; as 0 3 = 44; as 0 1 = 44; as 0 0 = 44; as 0 2 ! KIND; as 0 4 ! KIND; as 0 5 ! KIND
            as 0 -1 ! BAD; as 0 6 ! BAD; as 0 MIN ! BAD; as 0 MAX ! BAD; as -1 0 ! BAD; as 1 0 ! BAD; as MAX 0 ! BAD; as MIN 0 ! BAD; as 1 6 ! BAD; as 1 2 ! BAD
            set 0 1 0 = 44; as 0 0 = 0; set 0 1 99 = 0; as 0 3 = 99; turns 0 1 = 3; as 0 3 ! KIND
            9 * part 5 9 0 0; as 9 5 = 9; as 10 5 ! BAD
            """);
        s.holds("promise 5", "A PART is of another KIND from now on: what it was. BAD.", """
            turns 0 0 ! BAD; part 0 20 5 1 = 0; turns 0 5 = 0; told 0 0 = 5; turns 0 5 = 5; turns 0 0 = 5; told 0 0 = 0
            turns 0 -1 ! BAD; turns 0 6 ! BAD; turns 0 MIN ! BAD; turns 0 MAX ! BAD; turns 1 0 ! BAD; turns -1 0 ! BAD; turns MIN 0 ! BAD; turns MAX 0 ! BAD; told 0 0 = 0
            9 * part 0 9 0 0; turns 9 1 = 0; told 9 0 = 1; turns 10 1 ! BAD; told 9 1 = 9
            """);
        s.holds("promise 6", "GUESS, TAIL, SORT (what 1 .. 3) of a PART becomes v: what it was. BAD.", """
            set 0 1 0 ! BAD; part 0 20 5 1 = 0; part 0 21 6 2 = 1
            set 0 1 -1 ! BAD; set 0 1 100 ! BAD; set 0 1 MIN ! BAD; set 0 1 MAX ! BAD; set 0 1 0 = 20; set 0 1 99 = 0; told 0 1 = 99
            set 0 2 -1 ! BAD; set 0 2 11 ! BAD; set 0 2 99 ! BAD; set 0 2 0 = 5; set 0 2 10 = 0; told 0 2 = 10
            set 0 3 -1 ! BAD; set 0 3 3 ! BAD; set 0 3 10 ! BAD; set 0 3 0 = 1; set 0 3 2 = 0; told 0 3 = 2
            set 0 0 0 ! BAD; set 0 4 0 ! BAD; set 0 -1 0 ! BAD; set 0 MAX 0 ! BAD; set 0 MIN 0 ! BAD; set 2 1 0 ! BAD; set -1 1 0 ! BAD; set MAX 1 0 ! BAD; set MIN 1 0 ! BAD
            told 0 1 = 99; told 1 1 = 21; told 1 2 = 6; told 1 3 = 2; told 0 0 = 0; told 0 4 = 0
            8 * part 0 1 1 1; set 9 1 0 = 1; set 10 1 0 ! BAD
            """);
        s.holds("promise 7", "One PART is AHEAD of another one (v 1) or not (0): what it was. BAD: also if its number is not lesser.", """
            ahead 0 1 1 ! BAD; part 0 1 0 0 = 0; ahead 0 1 1 ! BAD; ahead 0 0 1 ! BAD; part 0 1 0 0 = 1; ahead 0 1 0 = 0; ahead 0 1 1 = 0; ahead 0 1 1 = 1; ahead 0 1 0 = 1; ahead 0 1 0 = 0
            ahead 0 1 2 ! BAD; ahead 0 1 -1 ! BAD; ahead 0 1 MAX ! BAD; ahead 0 1 MIN ! BAD; told 1 4 = 0; ahead 1 0 1 ! BAD; ahead 1 0 0 ! BAD; ahead 1 1 1 ! BAD; ahead 1 1 0 ! BAD
            ahead -1 0 1 ! BAD; ahead 0 2 1 ! BAD; ahead 1 2 0 ! BAD; ahead MIN 1 1 ! BAD; ahead 0 MAX 1 ! BAD; ahead MIN MAX 1 ! BAD
            8 * part 0 1 0 0; ahead 8 9 1 = 0; ahead 0 9 1 = 0; told 9 4 = 257; ahead 9 10 1 ! BAD; ahead 9 9 1 ! BAD; ahead 9 8 1 ! BAD; told 8 4 = 0; ahead 8 9 0 = 1; told 9 4 = 1
            """);
    }

    private static void bookCalls(Sentences s) {
        s.holds("promise 8", "A LINE of THE BOOK: how many there are. BAD.", """
            book 0 0 0 = 1; book 2 9999 9999 = 2; book -1 0 0 ! BAD; book 3 0 0 ! BAD; book MIN 0 0 ! BAD; book MAX 0 0 ! BAD
            book 0 -1 0 ! BAD; book 0 10000 0 ! BAD; book 0 MIN 0 ! BAD; book 0 MAX 0 ! BAD; book 0 0 -1 ! BAD; book 0 0 10000 ! BAD; book 0 0 MIN ! BAD; book 0 0 MAX ! BAD
            count 1 = 2; 18 * book 1 3 4 = 3..20; book 1 5 6 = 20; book 1 5 6 = 20; book 3 5 6 ! BAD; count 1 = 20; line 0 0 = 1; line 0 1 = 3
            """);
        s.holds("promise 9", "Of LINE i (the oldest first, from 0 on): what 0 SORT, 1 SAID, 2 WAS. BAD: what; NONE: there is no such LINE.", """
            line 0 0 = NONE; line -1 0 = NONE; line 0 3 ! BAD; line 0 -1 ! BAD; book 1 20 30 = 1; book 2 40 50 = 2
            line 0 0 = 1; line 0 1 = 20; line 0 2 = 30; line 1 0 = 2; line 1 1 = 40; line 1 2 = 50; line 2 0 = NONE; line -1 2 = NONE; line MAX 0 = NONE; line MIN 0 = NONE
            line 0 3 ! BAD; line 0 -1 ! BAD; line 0 MAX ! BAD; line 0 MIN ! BAD; line 2 3 ! BAD; line -1 -1 ! BAD; line MAX 3 ! BAD
            18 * book 0 7 8; line 19 1 = 7; line 20 1 = NONE; line 0 1 = 20; book 0 9 9 = 20; line 0 1 = 40; line 19 1 = 9; line 20 1 = NONE
            """);
        s.holds("promise 10", "FACTOR of a SORT (0 .. 2), of all (-1). BAD.", """
            factor -2 ! BAD; factor 3 ! BAD; factor MIN ! BAD; factor MAX ! BAD; factor -1 = 100; factor 0 = 100; factor 2 = 100
            book 0 10 11 = 1; book 1 10 12 = 2; book 2 10 13 = 3; factor 0 = 110; factor 1 = 120; factor 2 = 130; factor -1 = 120; factor 3 ! BAD; factor -2 ! BAD
            """);
    }

    private static void drawCalls(Sentences s) {
        s.holds("promise 11", "PARTS are drawn, n (1 .. 10) of them, as many as there is room for (no draws for others): how many came. BAD.", """
            deal 0 ! BAD; deal 11 ! BAD; deal -1 ! BAD; deal MAX ! BAD; deal MIN ! BAD; count 6 = 1; count 0 = 0
            deal 1 = 1; count 0 = 1; count 6 = -999580867; deal 1 = 1; count 6 = -1661227463; deal 10 = 8; count 0 = 10
            seed 5 = 1775811865; deal 1 = 0; deal 10 = 0; deal 11 ! BAD; count 6 = 5; count 0 = 10
            new; deal 10 = 10; count 0 = 10; count 6 = 1775811865
            new; 9 * part 0 1 1 1; deal 2 = 1; count 6 = -999580867; told 9 0 = 2; told 9 1 = 12; told 9 2 = 9; told 9 3 = 2
            """);
        s.holds("promise 12", "z becomes v: what it was.", """
            seed MIN = 1; seed MAX = MIN; seed 0 = MAX; seed -1 = 0; count 6 = -1
            deal 1 = 1; count 6 = -396452581; told 0 0 = 1; told 0 1 = 8; told 0 2 = 4; told 0 3 = 0; seed BAD = -396452581; count 6 = BAD
            """);
    }
}
