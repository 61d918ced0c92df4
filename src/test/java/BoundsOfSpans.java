/** Promises 13 to 22, and the terms that they rest on: each sentence at its bounds. */
final class BoundsOfSpans {
    private BoundsOfSpans() { }

    /** Ten PARTS, each AHEAD of the next one. */
    private static final String CHAIN = "ahead 0 1 1; ahead 1 2 1; ahead 2 3 1; ahead 3 4 1; ahead 4 5 1; ahead 5 6 1; ahead 6 7 1; ahead 7 8 1; ahead 8 9 1\n";

    static void all(Sentences s) {
        net(s);
        slack(s);
        people(s);
        chances(s);
        works(s);
        saidCalls(s);
        peopleCalls(s);
        chanceCalls(s);
        workCalls(s);
    }

    private static void net(Sentences s) {
        s.holds("terms 2", "WAITS of a PART: what wait gives, held within 0 .. 99 (without a TEXT: 0).", """
            part 0 7 3 0 = 0; told 0 6 = 0; told 0 8 = 0; text "wait 98" = 0; told 0 6 = 98; text "wait 99" = 1; told 0 6 = 99; told 0 8 = 99
            text "wait 100" = 2; told 0 6 = 99; text "wait 1" = 3; told 0 6 = 1; text "wait 0" = 4; told 0 6 = 0; text "wait 0-1" = 5; told 0 6 = 0
            text "wait 9999*9999*9999" = 6; told 0 6 = 0; text "wait 0-9999*9999*9999" = 7; told 0 6 = 99
            """);
        s.holds("terms 2", "With a length of each: it BEGINS at the greatest ENDS of all AHEAD (0 without), and WAITS; it ENDS so much later as its length is", """
            part 0 5 0 0 = 0; part 0 9 0 0 = 1; part 0 7 0 0 = 2; part 0 2 0 0 = 3; told 3 8 = 0; told 3 9 = 2
            ahead 0 3 1 = 0; told 3 8 = 5; ahead 1 3 1 = 0; told 3 8 = 9; ahead 2 3 1 = 0; told 3 8 = 9; told 3 9 = 11; ahead 1 3 0 = 1; told 3 8 = 7; told 3 9 = 9
            set 3 1 0 = 2; told 3 8 = 7; told 3 9 = 7; text "wait 99*(n>0)" = 0; told 0 8 = 0; told 3 8 = 106; told 3 9 = 106; set 3 1 99 = 0; told 3 9 = 205
            text "wait 99*(n=0)" = 1; told 0 8 = 99; told 0 9 = 104; told 3 8 = 106
            """);
        s.holds("terms 2", "THE END is the greatest ENDS (0 without PARTS).", """
            end = 0; text "wait 99" = 0; text "say 999" = 1; end = 0; text "wait 0" = 2; text "say g" = 3
            part 0 0 0 0 = 0; end = 0; part 0 5 0 0 = 1; end = 5; part 0 9 0 0 = 2; end = 9; part 0 7 0 0 = 3; end = 9; set 0 1 10 = 0; end = 10
            new; 10 * part 0 99 0 0
            """ + CHAIN + """
            end = 990; text "say 999" = 0; end = 9990; text "wait 99" = 1; end = 10980; told 9 9 = 10980; told 9 8 = 9981
            """);
        s.holds("terms 2", "BY WHAT IS SAID lengths are SAYS.", """
            part 5 4 9 0 = 0; part 1 4 9 0 = 1; ahead 0 1 1 = 0; told 0 9 = 5; told 1 8 = 5; told 1 9 = 18; end = 18
            text "say t" = 0; told 0 9 = 13; told 1 9 = 31; end = 31; text "say 0" = 1; told 0 9 = 1; end = 10
            """);
    }

    private static void slack(Sentences s) {
        s.holds("terms 2", "SLACK of a PART (by what is said): how much longer it alone might be (0 .. 9999) so that THE END is no later.", """
            part 0 3 0 0 = 0; told 0 10 = 0; part 0 4 0 0 = 1; told 0 10 = 1; told 1 10 = 0; ahead 0 1 1 = 0; told 0 10 = 0; told 1 10 = 0
            part 0 10 0 0 = 2; told 0 10 = 3; told 1 10 = 3; told 2 10 = 0; part 0 0 0 0 = 3; told 3 10 = 10; ahead 1 3 1 = 0; told 3 10 = 3; told 0 10 = 3
            ahead 0 2 1 = 0; told 0 10 = 0; told 1 10 = 6
            new; part 0 5 0 0 = 0; keep = 1; part 0 9 0 0 = 1; ahead 0 1 1 = 0; told 0 10 = 0; told 1 10 = 0; critical = 3; back = 1; told 0 10 = 0; critical = 1; part 0 6 0 0 = 1; told 0 10 = 1; critical = 2    # what is no more is not counted
            new; part 0 1 0 0 = 0; part 0 5 0 0 = 1; part 0 2 0 0 = 2; ahead 0 1 1 = 0; ahead 0 2 1 = 0; told 0 10 = 0; told 2 10 = 3   # the longest way behind it
            text "wait 2*n" = 0; told 2 10 = 3; told 0 10 = 0; text "wait 4*(g=2)" = 1; told 2 10 = 0; told 1 10 = 1; told 0 10 = 0
            new; 9 * part 0 99 0 0; part 0 0 0 0 = 9; ahead 0 1 1; ahead 1 2 1; ahead 2 3 1; ahead 3 4 1; ahead 4 5 1; ahead 5 6 1; ahead 6 7 1; ahead 7 8 1
            text "say g*99" = 0; text "wait g" = 1; end = 9882; told 9 10 = 9882; told 0 10 = 0; told 8 10 = 0; ahead 0 9 1 = 0; told 9 10 = 8784
            ahead 8 9 1 = 0; told 9 10 = 0
            """);
        s.holds("terms 2", "CRITICAL are PARTS whose SLACK is 0.", """
            critical = 0; count 2 = 0; part 0 0 0 0 = 0; part 0 0 0 0 = 1; critical = 3; count 2 = 2
            set 0 1 1 = 0; critical = 1; count 2 = 1; told 1 10 = 1; set 1 1 1 = 0; critical = 3; told 1 10 = 0; set 1 1 2 = 1; critical = 2; told 0 10 = 1
            ahead 0 1 1 = 0; critical = 3; text "wait 1-n" = 0; told 0 10 = 0; critical = 3
            new; 10 * part 0 99 0 0
            """ + CHAIN + """
            critical = 1023; count 2 = 10; text "say 999" = 0; text "wait 99" = 1; critical = 1023; ahead 4 5 0 = 1; critical = 1023
            set 0 1 0 = 99; text "say g" = 2; critical = 992; count 2 = 5; told 0 10 = 99
            """);
    }

    private static void people(Sentences s) {
        s.holds("terms 2", "STAFFED by n: people begin PARTS week by week, from week 0 on", """
            part 0 1 0 0 = 0; staffed 1 = 1; staffed 9 = 1; 9 * part 0 1 0 0; staffed 1 = 10; staffed 2 = 5; staffed 3 = 4; staffed 4 = 3; staffed 5 = 2; staffed 9 = 2
            text "say 999" = 0; staffed 1 = 9990; staffed 9 = 1998
            """);
        s.holds("terms 2", "each week, at first, PARTS that are over are done (one of SAYS 0 in the week in which it may be begun, without anybody)", """
            part 0 4 0 0 = 0; part 0 4 0 0 = 1; ahead 0 1 1 = 0; staffed 1 = 8; staffed 2 = 8        # over in week 4, and begun in it
            part 0 0 0 0 = 2; ahead 1 2 1 = 0; staffed 1 = 8; part 0 0 0 0 = 3; ahead 2 3 1 = 0; staffed 1 = 8; part 0 1 0 0 = 4; ahead 3 4 1 = 0; staffed 1 = 9
            new; part 0 0 0 0 = 0; staffed 1 = 0; part 0 0 0 0 = 1; ahead 0 1 1 = 0; part 0 0 0 0 = 2; ahead 1 2 1 = 0; staffed 1 = 0
            new; part 0 5 0 0 = 0; part 0 0 0 0 = 1; part 0 5 0 0 = 2; ahead 1 2 1 = 0; staffed 1 = 10; staffed 2 = 5    # nobody is needed for 1
            new; part 0 0 0 0 = 0; part 0 5 0 0 = 1; part 0 5 0 0 = 2; staffed 2 = 5
            new; part 0 5 0 0 = 0; part 0 0 0 0 = 1; ahead 0 1 1 = 0; staffed 1 = 5                     # not ahead of week 5
            """);
        s.holds("terms 2", "then, as long as somebody is free, the least PART that is not begun, all AHEAD of which are done, is begun by one, who is free again when it is over (SAYS weeks later)", """
            part 0 1 0 0 = 0; part 0 2 0 0 = 1; part 0 9 0 0 = 2; staffed 1 = 12; staffed 2 = 10; staffed 3 = 9        # 0 and 1, then 2
            new; part 0 5 0 0 = 0; part 0 1 0 0 = 1; part 0 3 0 0 = 2; ahead 0 1 1 = 0; staffed 1 = 9; staffed 2 = 6   # 1 is passed over
            new; part 0 2 0 0 = 0; part 0 6 0 0 = 1; part 0 3 0 0 = 2; part 0 1 0 0 = 3; ahead 0 1 1 = 0; ahead 1 3 1 = 0; ahead 2 3 1 = 0; staffed 1 = 12; staffed 2 = 9
            new; part 0 3 0 0 = 0; part 0 5 0 0 = 1; part 0 1 0 0 = 2; ahead 0 2 1 = 0; ahead 1 2 1 = 0; staffed 2 = 6  # all AHEAD, not one
            new; part 5 4 0 0 = 0; part 1 4 10 0 = 1; staffed 1 = 19; staffed 2 = 14                                   # SAYS, not GUESS
            new; part 0 5 0 0 = 0; part 0 1 0 0 = 1; part 0 1 0 0 = 2; part 0 5 0 0 = 3; staffed 2 = 7
            """);
        s.holds("terms 2", "no WAITS.", """
            part 0 3 0 0 = 0; part 0 4 0 0 = 1; ahead 0 1 1 = 0; text "wait 99" = 0; end = 205; staffed 1 = 7; staffed 9 = 7; more 1 1 9 = 7; more 9 0 0 = 10
            """);
        s.holds("terms 2", "The week in which all are done.", """
            staffed 1 = 0; staffed 9 = 0; more 1 9 0 = 0; part 0 0 0 0 = 0; staffed 1 = 0; more 1 0 0 = 0; part 0 1 0 0 = 1; staffed 1 = 1; more 1 0 0 = 4; more 1 0 1 = 1
            """);
        s.holds("terms 2", "MORE: m more in week w: in weeks w, w + 1, w + 2 nobody begins anything (what takes 0 weeks is done all the same), from week w + 3 on there are n and m.", """
            10 * part 0 1 0 0; more 1 0 0 = 13; more 1 0 1 = 13; more 1 0 9 = 13; more 1 0 10 = 10; more 1 0 11 = 10
            more 1 1 0 = 8; more 1 1 1 = 9; more 1 1 2 = 9; more 1 9 0 = 4; more 9 1 0 = 4; more 9 0 0 = 5; more 9 9 0 = 4; more 1 8 0 = 5; more 9 0 1 = 5; more 9 0 2 = 2
            new; part 0 6 0 0 = 0; part 0 4 0 0 = 1; more 1 1 1 = 8; more 1 1 0 = 9; more 1 0 1 = 10; more 1 1 5 = 12; more 1 1 6 = 13; more 1 1 7 = 10; more 1 1 3 = 10   # who is at work goes on
            new; part 0 2 0 0 = 0; part 0 0 0 0 = 1; ahead 0 1 1 = 0; more 1 0 0 = 5; more 1 0 1 = 2; more 1 0 2 = 2
            part 0 0 0 0 = 2; part 0 1 0 0 = 3; ahead 1 3 1 = 0; more 1 0 1 = 5; more 1 0 2 = 6; more 1 0 3 = 3
            new; part 0 20 0 0 = 0; part 0 20 0 0 = 1; part 0 20 0 0 = 2; more 1 2 1 = 24; more 1 1 1 = 40; more 2 1 1 = 24
            new; 2 * part 0 1 0 0; text "say 999" = 0; staffed 1 = 1998; more 1 1 999 = 2001; more 1 1 998 = 2000; more 1 0 999 = 2001
            8 * part 0 1 0 0; more 1 0 999 = 9993; more 1 0 0 = 9993; more 9 9 999 = 2001
            """);
    }

    private static void chances(Sentences s) {
        s.holds("terms 3", "A PART takes GUESS weeks (SHORT), or 2 times GUESS and 1 (LONG), that with TAIL of 10, all by themselves; lengths are these.", """
            part 5 0 10 0 = 0; span 1 = 1; span 100 = 1; set 0 2 0 = 10; span 100 = 0; set 0 1 99 = 0; span 100 = 99; set 0 2 10 = 0; span 1 = 199; span 100 = 199
            set 0 2 1 = 10; odds 99 0 = 9; odds 99 1 = 10; set 0 2 9 = 1; odds 99 0 = 1; odds 99 1 = 10
            new; part 1 1 5 0 = 0; part 2 1 5 0 = 1; odds 1 0 = 1; odds 1 1 = 4; odds 3 0 = 1; ahead 0 1 1 = 0; odds 2 0 = 1; odds 2 1 = 4; odds 4 0 = 3; odds 4 1 = 4; odds 6 1 = 1
            new; part 0 1 5 0 = 0; part 0 1 0 0 = 1; part 0 1 0 0 = 2; ahead 0 1 1 = 0; ahead 0 2 1 = 0; odds 2 0 = 1; odds 2 1 = 2; odds 3 1 = 2; odds 4 1 = 1   # one length for both
            text "say 50" = 0; odds 2 1 = 2; text "wait n*7" = 1; odds 9 1 = 2; odds 8 0 = 0; odds 11 1 = 1; odds 10 1 = 2
            """);
        s.holds("terms 3", "ODDS of t: how likely THE END is t or less: a fraction in lowest terms.", """
            odds 0 0 = 1; odds 0 1 = 1; part 0 4 4 0 = 0; odds 3 0 = 0; odds 3 1 = 1; odds 4 0 = 3; odds 4 1 = 5; odds 8 0 = 3; odds 8 1 = 5; odds 9 0 = 1; odds 9 1 = 1; odds 9999 0 = 1; odds 9999 1 = 1
            new; 10 * part 0 1 1 0; odds 0 0 = 0; odds 0 1 = 1; odds 1 0 = 3486784401; odds 1 1 = 10000000000; odds 2 0 = 3486784401; odds 3 0 = 1; odds 3 1 = 1
            new; 10 * part 0 1 5 0; odds 1 0 = 1; odds 1 1 = 1024
            new; 10 * part 0 99 9 0
            """ + CHAIN + """
            text "wait 99" = 0; odds 1979 0 = 0; odds 1980 0 = 1; odds 1980 1 = 10000000000; odds 2979 0 = 6513215599; odds 2979 1 = 10000000000; odds 2980 0 = 1; odds 2980 1 = 1
            """);
        s.holds("terms 3", "SPAN of p: the least t with ODDS of p of 100 or more.", """
            span 1 = 0; span 100 = 0; part 0 4 3 0 = 0; span 1 = 4; span 69 = 4; span 70 = 4; span 71 = 9; span 100 = 9
            set 0 2 9 = 3; span 10 = 4; span 11 = 9; part 0 4 9 0 = 1; span 1 = 4; span 2 = 9; part 0 4 9 0 = 2; span 1 = 9
            new; 3 * part 0 1 1 0; ahead 0 1 1; ahead 1 2 1; span 100 = 9; span 98 = 7; span 97 = 5; span 73 = 5; span 72 = 3; span 99 = 7   # 729, 243, 27, 1 of 1000
            new; 10 * part 0 1 1 0; span 34 = 1; span 35 = 3; span 100 = 3
            new; 10 * part 0 99 10 0
            """ + CHAIN + """
            text "wait 99" = 0; span 1 = 2980; span 100 = 2980
            """);
        s.holds("terms 3", "MEAN: THE END in the mean, a fraction in lowest terms.", """
            mean 0 = 0; mean 1 = 1; part 0 0 0 0 = 0; mean 0 = 0; mean 1 = 1; set 0 2 1 = 0; mean 0 = 1; mean 1 = 10; set 0 2 5 = 1; mean 0 = 1; mean 1 = 2
            set 0 2 10 = 5; mean 0 = 1; mean 1 = 1; set 0 1 99 = 0; mean 0 = 199; mean 1 = 1; set 0 2 4 = 10; mean 0 = 139; mean 1 = 1   # 99 * 6 and 199 * 4: 1390
            new; 10 * part 0 0 1 0; mean 0 = 6513215599; mean 1 = 10000000000
            new; 10 * part 0 99 10 0
            """ + CHAIN + """
            text "wait 99" = 0; mean 0 = 2980; mean 1 = 1; set 0 2 1 = 10; mean 0 = 2890; mean 1 = 1; set 0 1 98 = 99; mean 0 = 28889; mean 1 = 10
            """);
    }

    private static void works(Sentences s) {
        // From z 1 on draws have the rests 4, 2, 6, 3 by 10; from -1778682749 on 0; from 2147483647 on 9.
        s.holds("terms 3", "A WORK of a SORT: for each PART by numbers a draw: it is LONG, if its rest by 10 is below TAIL", """
            part 0 10 4 0 = 0; keep = 1; works 0 1 = 1; line 0 2 = 10; count 6 = 1103527590; back = 1; set 0 2 5 = 4; works 0 1 = 0; line 0 2 = 21; count 6 = 1103527590
            new; part 0 10 0 0 = 0; keep = 1; seed -1778682749 = 1; works 0 1 = 1; line 0 2 = 10; back = 1; seed -1778682749 = 1; set 0 2 1 = 0; works 0 1 = 0; line 0 2 = 21
            new; part 0 10 9 0 = 0; keep = 1; seed MAX = 1; works 0 1 = 1; line 0 2 = 10; back = 1; seed MAX = 1; set 0 2 10 = 9; works 0 1 = 0; line 0 2 = 21
            new; part 0 10 4 0 = 0; part 0 30 3 0 = 1; works 0 1 = 0; line 0 2 = 61; count 6 = -1770082073
            new; works 0 40 = 40; count 6 = 1; line 0 1 = 0; line 0 2 = 0
            new; 10 * part 0 0 0 0; works 0 40 = 40; count 6 = 882003441
            """);
        s.holds("terms 3", "THE BOOK gets a LINE of this SORT: SAID: THE END by what is said (9999 at most, both), WAS: THE END with these lengths.", """
            part 2 10 10 0 = 0; works 0 1 = 0; line 0 0 = 0; line 0 1 = 10; line 0 2 = 21; works 2 1 = 1; line 1 0 = 2; line 1 1 = 21; line 1 2 = 21; works 1 1; line 2 0 = 1; line 2 1 = 13
            new; 10 * part 0 0 0 0; set 9 1 1 = 0
            """ + CHAIN + """
            text "say 999" = 0; works 0 1 = 1; line 0 1 = 9990; line 0 2 = 1; text "wait n*(g=0)" = 1; end = 9998; works 0 1 = 1; line 1 1 = 9998; line 1 2 = 9
            text "wait n" = 2; end = 9999; works 0 1 = 1; line 2 1 = 9999; text "wait 1" = 3; end = 10000; works 0 1 = 1; line 3 1 = 9999; line 3 2 = 11
            text "wait 99" = 4; end = 10980; works 0 1 = 1; line 4 1 = 9999; line 4 2 = 991
            new; 10 * part 0 99 10 0
            """ + CHAIN + """
            text "wait 99" = 0; works 0 1 = 0; line 0 1 = 1980; line 0 2 = 2980
            """);
        s.holds("terms 3", "z is told (1 at first).", """
            count 6 = 1; seed 5 = 1; count 6 = 5; new; seed 1 = 1
            """);
        s.holds("terms 3", "A draw: z becomes z * 1103515245 + 12345 (an int); it gives z >>> 8.", """
            part 0 0 0 0 = 0; seed 0 = 1; works 0 1 = 1; count 6 = 12345; works 0 1 = 1; count 6 = -740551042; seed MAX = -740551042; works 0 1 = 1; count 6 = 1043980748
            seed MIN = 1043980748; works 0 1 = 1; count 6 = -2147471303
            new; part 0 5 5 0 = 0; seed -1 = 1; works 0 1 = 1; count 6 = -1103502900; line 0 2 = 5       # below 0, but >>> 8: the rest is 7
            new; part 0 5 8 0 = 0; seed -1 = 1; works 0 1 = 0; line 0 2 = 11; new; part 0 5 7 0 = 0; seed -1 = 1; works 0 1 = 1; line 0 2 = 5
            """);
        s.holds("terms 3", "PARTS that are drawn: KIND the rest of a draw by 6, GUESS that of one more by 20, TAIL that of one more by 11, SORT that of one more by 3; nothing AHEAD.", """
            deal 2 = 2; told 0 0 = 2; told 0 1 = 12; told 0 2 = 9; told 0 3 = 2; told 0 4 = 0; told 1 0 = 1; told 1 1 = 16; told 1 2 = 8; told 1 3 = 2; told 1 4 = 0; count 6 = -1661227463
            new; seed MAX = 1; deal 1 = 1; told 0 0 = 5; told 0 1 = 16; told 0 2 = 1; told 0 3 = 1; count 6 = 1751031067
            new; seed -1 = 1; deal 2 = 2; told 0 0 = 1; told 0 1 = 8; told 0 2 = 4; told 0 3 = 0; told 1 0 = 4; told 1 1 = 0; told 1 2 = 5; told 1 3 = 0
            """);
        s.holds("terms 3", "FINE of a week d: what fine gives (without a TEXT: what THE END by what is said is more than d, 0 at least).", """
            fine 0 = 0; part 0 30 0 0 = 0; fine 0 = 30; fine 29 = 1; fine 30 = 0; fine 31 = 0; fine 9999 = 0; text "wait 5" = 0; fine 30 = 5; fine 35 = 0
            text "fine e-d" = 1; fine 35 = 0; fine 36 = -1; fine 9999 = -9964; fine 0 = 35; text "fine 9999*9999*9999" = 2; fine 0 = -1027349969
            new; 10 * part 0 99 0 0
            """ + CHAIN + """
            text "say 999" = 0; text "wait 99" = 1; fine 0 = 10980; fine 9999 = 981; text "fine e" = 2; fine 9999 = 10980; text "fine d" = 3; fine 9999 = 9999; fine 0 = 0
            """);
    }

    private static void saidCalls(Sentences s) {
        s.holds("promise 13", "SAYS of all, together.", """
            together = 0; part 0 0 0 0 = 0; together = 0; part 1 5 5 0 = 1; together = 10; ahead 0 1 1 = 0; text "wait 9" = 0; together = 10
            8 * part 0 99 0 0; together = 802; text "say 999" = 1; together = 9990; text "say 0" = 2; together = 5
            """);
        s.holds("promise 14", "THE END by what is said.", """
            end = 0; part 0 0 0 0 = 0; end = 0; part 1 5 5 0 = 1; end = 10; part 0 3 0 0 = 2; end = 10; ahead 1 2 1 = 0; end = 13; text "wait 9" = 0; end = 31
            new; 10 * part 0 99 10 0; end = 99; text "say 999" = 0; end = 999; text "wait 99" = 1; end = 1098
            """);
        s.holds("promise 15", "CRITICAL, as a set.", """
            critical = 0; part 0 0 0 0 = 0; critical = 1; 8 * part 0 0 0 0; critical = 511; part 0 1 0 0 = 9; critical = 512; ahead 0 9 1 = 0; critical = 513; ahead 8 9 1 = 0; critical = 769
            """);
    }

    private static void peopleCalls(Sentences s) {
        s.holds("promise 16", "STAFFED by n (1 .. 9). BAD.", """
            staffed 0 ! BAD; staffed 10 ! BAD; staffed -1 ! BAD; staffed MAX ! BAD; staffed MIN ! BAD; staffed 1 = 0; staffed 9 = 0
            10 * part 0 5 0 0; staffed 1 = 50; staffed 8 = 10; staffed 9 = 10; staffed 0 ! BAD; staffed 10 ! BAD
            """);
        s.holds("promise 17", "STAFFED by n (1 .. 9), MORE: m (0 .. 9) more in week w (0 .. 999). BAD.", """
            more 0 0 0 ! BAD; more 10 0 0 ! BAD; more MIN 0 0 ! BAD; more MAX 0 0 ! BAD; more 1 -1 0 ! BAD; more 1 10 0 ! BAD; more 1 MIN 0 ! BAD; more 1 MAX 0 ! BAD
            more 1 0 -1 ! BAD; more 1 0 1000 ! BAD; more 1 0 MIN ! BAD; more 1 0 MAX ! BAD; more 1 0 0 = 0; more 9 9 999 = 0
            10 * part 0 5 0 0; more 1 0 0 = 53; more 9 0 0 = 13; more 1 9 0 = 8; more 9 9 0 = 8; more 1 0 999 = 50; more 1 9 999 = 50; more 1 8 0 = 13
            """);
    }

    private static void chanceCalls(Sentences s) {
        s.holds("promise 18", "ODDS of t (0 .. 9999): above (part 0), below the line (1). BAD.", """
            odds -1 0 ! BAD; odds 10000 0 ! BAD; odds MIN 0 ! BAD; odds MAX 1 ! BAD; odds 0 -1 ! BAD; odds 0 2 ! BAD; odds 0 MIN ! BAD; odds 0 MAX ! BAD; odds 10000 2 ! BAD
            odds 0 0 = 1; odds 0 1 = 1; odds 9999 0 = 1; odds 9999 1 = 1; part 0 0 2 0 = 0; odds 0 0 = 4; odds 0 1 = 5; odds 1 0 = 1; odds 1 1 = 1
            """);
        s.holds("promise 19", "SPAN of p (1 .. 100). BAD.", """
            span 0 ! BAD; span 101 ! BAD; span -1 ! BAD; span MIN ! BAD; span MAX ! BAD; span 1 = 0; span 100 = 0; part 0 3 1 0 = 0; span 1 = 3; span 100 = 7; span 0 ! BAD; span 101 ! BAD
            """);
        s.holds("promise 20", "MEAN: above (part 0), below the line (1). BAD.", """
            mean -1 ! BAD; mean 2 ! BAD; mean MIN ! BAD; mean MAX ! BAD; mean 0 = 0; mean 1 = 1; part 0 3 1 0 = 0; mean 0 = 17; mean 1 = 5   # 27 and 7 of 10
            """);
    }

    private static void workCalls(Sentences s) {
        s.holds("promise 21", "n (1 .. 40) WORKS of a SORT: how many WAS no more than SAID. BAD.", """
            works -1 1 ! BAD; works 3 1 ! BAD; works MIN 1 ! BAD; works MAX 1 ! BAD; works 0 0 ! BAD; works 0 41 ! BAD; works 0 -1 ! BAD; works 0 MIN ! BAD; works 0 MAX ! BAD; works 3 41 ! BAD
            count 1 = 0; count 6 = 1; works 0 1 = 1; works 2 40 = 40; count 1 = 20
            new; part 0 10 0 0 = 0; works 0 1 = 1; count 1 = 1; works 0 40 = 40; set 0 2 10 = 0; works 0 40 = 0        # WAS is SAID; WAS is more
            new; part 0 0 10 0 = 0; works 0 1 = 0; line 0 1 = 0; line 0 2 = 1; turns 0 1 = 0; works 0 1 = 1; line 1 1 = 10; line 1 2 = 1
            text "say 0" = 0; set 0 2 1 = 10; seed -1778682749; works 0 1 = 1; line 2 1 = 1; line 2 2 = 1; count 1 = 3    # just as much, LONG
            """);
        s.holds("promise 22", "FINE of a week (0 .. 9999). BAD.", """
            fine -1 ! BAD; fine 10000 ! BAD; fine MIN ! BAD; fine MAX ! BAD; fine 0 = 0; fine 9999 = 0; text "fine d+1" = 0; fine 0 = 1; fine 9999 = 10000; fine -1 ! BAD; fine 10000 ! BAD
            """);
    }
}
