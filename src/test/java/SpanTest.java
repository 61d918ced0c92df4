/** Promises 13 to 22: what is said, what it is. */
public final class SpanTest {
    public static void main(String[] args) {
        together();
        end();
        critical();
        staffed();
        more();
        odds();
        span();
        mean();
        works();
        fine();
        Due.end();
    }

    private static ElevenParts withGuesses(int... guesses) {
        ElevenParts x = new ElevenParts();
        for (int g : guesses) x.part(0, g, 0, 0);
        return x;
    }

    private static void together() { // promise 13
        Due.due("together, none", new ElevenParts().together(), 0);
        ElevenParts x = withGuesses(3, 4, 99);
        x.turns(1, 5);
        x.ahead(0, 1, 1);
        Due.text(x, "wait 50");
        Due.due("together", x.together(), 3 + 5 + 99);
        Due.text(x, "say 4");
        Due.due("together, by a text", x.together(), 4 + 5 + 4);
    }

    private static void end() { // promise 14
        Due.due("end, none", new ElevenParts().end(), 0);
        ElevenParts x = withGuesses(3, 4, 5, 1);
        Due.due("end, side by side", x.end(), 5);
        x.ahead(0, 1, 1);
        x.ahead(1, 3, 1);
        x.ahead(2, 3, 1);
        Due.due("end, 3 4 1", x.end(), 8);
        Due.text(x, "wait n");
        Due.due("end, 3, 1 and 4, 2 and 1", x.end(), 11);
        Due.text(x, "wait 0-n");
        Due.due("end, waits are 0 at least", x.end(), 8);
        Due.text(x, "wait 100");
        Due.due("end, waits are 99 at most", x.end(), 3 * 99 + 8);
    }

    private static void critical() { // promise 15
        Due.due("critical, none", new ElevenParts().critical(), 0);
        ElevenParts x = withGuesses(3, 4, 5, 1, 8);
        x.ahead(0, 1, 1);
        x.ahead(1, 3, 1);
        x.ahead(2, 3, 1);
        Due.due("critical, 0 1 3 and 4", x.critical(), 0b11011);
        Due.due("critical, the slack of 2", x.told(2, 10), 2);
        x.set(2, 1, 7);
        Due.due("critical, all", x.critical(), 0b11111);
        Due.text(x, "wait n*(n<2)");
        Due.due("critical, with waits", x.critical(), 0b01011);
        x = withGuesses(3, 4, 5);
        x.keep();
        x.part(0, 9, 0, 0);
        x.ahead(0, 3, 1);
        x.ahead(2, 3, 1);
        Due.due("critical, 2 and 3", x.critical(), 0b1100);
        x.back();
        Due.due("critical, 2 alone", x.critical(), 0b100);
        Due.due("critical, the slack of 0", x.told(0, 10), 2);
        x.set(0, 1, 5);
        Due.due("critical, 0 and 2", x.critical(), 0b101);
    }

    private static void staffed() { // promise 16
        Due.due("staffed, none", new ElevenParts().staffed(1), 0);
        ElevenParts x = withGuesses(3, 4, 5, 0, 2);
        Due.due("staffed by one", x.staffed(1), 14);
        Due.due("staffed by two: 0 and 1, then 2, then 4", x.staffed(2), 8);
        Due.due("staffed by nine", x.staffed(9), 5);
        Due.dueAll("staffed, wrong", Due.BAD, x.staffed(0), x.staffed(10), x.staffed(-1), x.staffed(Due.MOST));
        x.ahead(2, 3, 1);
        x.ahead(3, 4, 1);
        Due.due("staffed, nothing takes 0 weeks but is waited for", x.staffed(9), 7);
        Due.text(x, "wait 50");
        Due.due("staffed, no waits", x.staffed(9), 7);
        x = withGuesses(0, 0, 0);
        x.ahead(0, 1, 1);
        x.ahead(1, 2, 1);
        Due.due("staffed, all in week 0", x.staffed(1), 0);
        x = withGuesses(2, 6, 3);
        x.ahead(0, 1, 1);
        Due.due("staffed, the least that may be begun", x.staffed(1), 11);
        Due.due("staffed, 2 is begun ahead of 1", x.staffed(2), 8);
        x = withGuesses(5, 1, 1, 5);
        Due.due("staffed, who is busy is not free", x.staffed(2), 7);
        x = withGuesses(1, 1, 1);
        x.ahead(0, 1, 1);
        x.ahead(0, 2, 1);
        Due.text(x, "say 5");
        Due.due("staffed, parts alone are begun", x.staffed(2), 10);
        x = withGuesses(99, 99, 99, 99, 99, 99, 99, 99, 99, 99);
        Due.text(x, "say 999");
        Due.due("staffed, as long as it can be", x.staffed(1), 9990);
    }

    private static void more() { // promise 17
        Due.due("more, none", new ElevenParts().more(1, 9, 0), 0);
        ElevenParts x = withGuesses(3, 4, 5, 0, 2);
        Due.due("more, m 0 in week 0: three weeks later", x.more(1, 0, 0), 17);
        Due.due("more, from week 3 on three of them", x.more(1, 2, 0), 3 + 3 + 2);
        Due.due("more, when all is over", x.more(1, 9, 14), 14);
        Due.due("more, in the last week but one", x.more(1, 9, 13), 14);
        Due.due("more, week 3: 0 is over, nobody begins", x.more(1, 1, 3), 3 + 3 + 4 + 2);
        Due.due("more, who is at work goes on: 1 is over in 7", x.more(1, 1, 4), 12);
        Due.due("more, week 999", x.more(1, 1, 999), 14);
        Due.due("more, the most of all", x.more(9, 9, 0), 8);
        Due.dueAll("more, wrong", Due.BAD, x.more(0, 0, 0), x.more(10, 0, 0), x.more(1, -1, 0), x.more(1, 10, 0), x.more(1, 0, -1), x.more(1, 0, 1000));
        x = withGuesses(0, 0);
        x.ahead(0, 1, 1);
        Due.due("more, what takes 0 weeks is done all the same", x.more(1, 1, 0), 0);
        x = withGuesses(2, 0, 0, 1);
        x.ahead(0, 1, 1);
        x.ahead(1, 2, 1);
        x.ahead(0, 3, 1);
        Due.due("more, 0 weeks within the three", x.more(1, 1, 2), 6);
        x.set(3, 1, 0);
        Due.due("more, only such within the three", x.more(1, 1, 2), 2);
        x = withGuesses(20, 20, 20);
        Due.due("more, they begin though nothing is over", x.more(1, 2, 1), 4 + 20);
    }

    private static void oddsAre(String what, ElevenParts x, int t, long above, long below) {
        Due.due(what + ", above", x.odds(t, 0), above);
        Due.due(what + ", below", x.odds(t, 1), below);
    }

    private static void odds() { // promise 18
        ElevenParts x = new ElevenParts();
        oddsAre("odds, none", x, 0, 1, 1);
        x.part(1, 4, 3, 0); // 4 with 7, 9 with 3 of 10
        oddsAre("odds of 3", x, 3, 0, 1);
        oddsAre("odds of 4", x, 4, 7, 10);
        oddsAre("odds of 8", x, 8, 7, 10);
        oddsAre("odds of 9", x, 9, 1, 1);
        oddsAre("odds of 9999", x, 9999, 1, 1);
        x.part(0, 2, 5, 0); // 2 or 5
        x.ahead(0, 1, 1); // 6, 9, 11, 14 with 35, 35, 15, 15 of 100
        oddsAre("odds of 6", x, 6, 7, 20);
        oddsAre("odds of 9 with two", x, 9, 7, 10);
        oddsAre("odds of 11", x, 11, 17, 20);
        Due.text(x, "wait n*2");
        oddsAre("odds of 8 with waits", x, 8, 7, 20);
        oddsAre("odds of 7 with waits", x, 7, 0, 1);
        Due.text(x, "say 500");
        oddsAre("odds, whatever is said", x, 8, 7, 20);
        Due.dueAll("odds, wrong", Due.BAD, x.odds(-1, 0), x.odds(10000, 0), x.odds(0, -1), x.odds(0, 2), x.odds(Due.LEAST, 0));
        x = new ElevenParts();
        for (int i = 0; i < 10; i++) x.part(0, 99, 3, 0);
        for (int i = 1; i < 10; i++) x.ahead(i - 1, i, 1);
        Due.text(x, "wait 99");
        oddsAre("odds, all short", x, 1980, 282475249L, 10000000000L);
        oddsAre("odds, all but the last", x, 2979, 9999940951L, 10000000000L);
        oddsAre("odds, the latest", x, 2980, 1, 1);
        x.set(0, 2, 10);
        oddsAre("odds, one is always long", x, 2080, 40353607L, 1000000000L);
        x = new ElevenParts();
        x.part(0, 1, 1, 0);
        oddsAre("odds, a tail of 1", x, 2, 9, 10);
        oddsAre("odds, a tail of 1, all", x, 3, 1, 1);
        x.set(0, 2, 9);
        oddsAre("odds, a tail of 9", x, 1, 1, 10);
    }

    private static void span() { // promise 19
        ElevenParts x = new ElevenParts();
        Due.due("span, none", x.span(1), 0);
        x.part(1, 4, 3, 0);
        Due.due("span of 70", x.span(70), 4);
        Due.due("span of 71", x.span(71), 9);
        Due.due("span of 1", x.span(1), 4);
        Due.due("span of 100", x.span(100), 9);
        Due.dueAll("span, wrong", Due.BAD, x.span(0), x.span(101), x.span(-1), x.span(Due.MOST));
        x = new ElevenParts();
        for (int i = 0; i < 10; i++) x.part(0, 99, 9, 0);
        for (int i = 1; i < 10; i++) x.ahead(i - 1, i, 1);
        Due.text(x, "wait 99");
        Due.due("span, as long as it can be", x.span(100), 2980);
        Due.due("span, nine of them long", x.span(34), 2880);
        x = new ElevenParts();
        for (int i = 0; i < 3; i++) x.part(0, 1, 1, 0);
        x.ahead(0, 1, 1);
        x.ahead(1, 2, 1);
        Due.due("span of 100, 999 of 1000 are not enough", x.span(100), 9);
        Due.due("span of 99", x.span(99), 7);
        Due.due("span of 72", x.span(72), 3);
        Due.due("span of 73", x.span(73), 5);
    }

    private static void mean() { // promise 20
        ElevenParts x = new ElevenParts();
        Due.due("mean, none, above", x.mean(0), 0);
        Due.due("mean, none, below", x.mean(1), 1);
        x.part(1, 4, 3, 0);
        Due.due("mean, above", x.mean(0), 11); // (28 + 27) / 10
        Due.due("mean, below", x.mean(1), 2);
        x.part(2, 0, 10, 0); // always 1
        x.ahead(0, 1, 1);
        Due.due("mean of both, above", x.mean(0), 13);
        Due.due("mean of both, below", x.mean(1), 2);
        Due.text(x, "wait 99*n");
        Due.due("mean with waits", x.mean(0), 211);
        Due.dueAll("mean, wrong", Due.BAD, x.mean(-1), x.mean(2));
        x = new ElevenParts();
        for (int i = 0; i < 10; i++) x.part(0, 99, 10, 0);
        for (int i = 1; i < 10; i++) x.ahead(i - 1, i, 1);
        Due.text(x, "wait 99");
        Due.due("mean, the greatest", x.mean(0), 2980);
        Due.due("mean, the greatest, below", x.mean(1), 1);
    }

    private static void works() { // promise 21
        ElevenParts x = new ElevenParts();
        Due.due("works without parts", x.works(0, 2), 2);
        Due.due("works, no draws", x.count(6), 1);
        Due.due("works, lines of 0", x.line(1, 1) + x.line(1, 2), 0);
        x = new ElevenParts();
        x.part(2, 10, 5, 0);
        x.part(0, 3, 0, 0);
        x.part(0, 3, 10, 0);
        x.ahead(0, 1, 1);
        x.ahead(1, 2, 1);
        x.seed(99);
        int z = 99, kept = 0, said = 0, was = 0;
        for (int i = 0; i < 15; i++) {
            int factor = said == 0 ? 100 : 100 * was / said;
            boolean slow = false;
            for (int k = 0; k < 3; k++) {
                z = z * 1103515245 + 12345;
                if (k == 0) slow = (z >>> 8) % 10 < 5;
            }
            int s = 10 * factor / 100 + 6, w = (slow ? 21 : 10) + 3 + 7;
            if (w <= s) kept++;
            Due.due("works, one", x.works(1, 1), w <= s ? 1 : 0);
            Due.due("works, sort", x.line(i, 0), 1);
            Due.due("works, said", x.line(i, 1), s);
            Due.due("works, was", x.line(i, 2), w);
            said += s;
            was += w;
        }
        Due.due("works, z", x.count(6), z);
        ElevenParts y = new ElevenParts();
        y.part(2, 10, 5, 0);
        y.part(0, 3, 0, 0);
        y.part(0, 3, 10, 0);
        y.ahead(0, 1, 1);
        y.ahead(1, 2, 1);
        y.seed(99);
        Due.due("works, all at once", y.works(1, 15), kept);
        Due.due("works, lines", y.count(1), 15);
        y.works(2, 40);
        Due.due("works, no more than 20 lines", y.count(1), 20);
        Due.dueAll("works, wrong", Due.BAD, x.works(-1, 1), x.works(3, 1), x.works(0, 0), x.works(0, 41));
        x = new ElevenParts();
        for (int i = 0; i < 10; i++) x.part(0, 1, 0, 0);
        for (int i = 1; i < 10; i++) x.ahead(i - 1, i, 1);
        Due.text(x, "say 999");
        Due.text(x, "wait 99");
        Due.due("works, kept", x.works(0, 1), 1);
        Due.due("works, said is 9999 at most", x.line(0, 1), 9999);
        Due.due("works, was with waits", x.line(0, 2), 1000);
    }

    private static void fine() { // promise 22
        ElevenParts x = withGuesses(30);
        Due.due("fine", x.fine(20), 10);
        Due.due("fine of week 0", x.fine(0), 30);
        Due.due("fine of its week", x.fine(30), 0);
        Due.due("fine, 0 at least", x.fine(9999), 0);
        Due.dueAll("fine, wrong", Due.BAD, x.fine(-1), x.fine(10000), x.fine(Due.LEAST));
        Due.text(x, "fine (d-e)*9999*9999");
        Due.due("fine by a text, below 0", x.fine(29), -99980001);
        Due.due("fine by a text, wrapped", x.fine(9999), 9969 * 99980001);
    }
}
