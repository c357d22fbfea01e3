import java.math.BigInteger;
import java.util.HashSet;
import java.util.Set;

/** The edges that the document names for odds, draws and what is kept (promises 20 to 27), each sentence in a method of its own. */
public final class OddsEdgesTest {
    private static final int BAD = -1, NO = -2, FULL = -3, NONE = -4;
    private static final int LOWEST = Integer.MIN_VALUE, HIGHEST = Integer.MAX_VALUE;
    private static final Check CHECK = new Check();
    private static final int[] COMES = {0, 3, 7, 7, 20, 25, 199, 199};

    public static void main(String[] args) {
        seatsForAllWhoBooked();
        oneSeatTooFew();
        noneComesOrAllCome();
        inLowestTerms();
        leastAndGreatestBooked();
        qOfAHundredOrMore();
        noOddsAskedForOrAll();
        overFromKToFourteen();
        goOffIfPIsBelowM();
        offForMoreThanM();
        backWithinNMore();
        dareOfNone();
        dareOfEight();
        laterByADraw();
        drawsOfNoughtToTheLast();
        vAndOne();
        tenDays();
        tenWrapsAround();
        tenInHowMany();
        shutOutInTheLastMinute();
        drawnChangesNothing();
        holdersAtFirst();
        keptTwoAtMost();
        asKeptLast();
        keptNoMore();
        keptAsItWas();
        howManyOfEach();
        wrongNumbers();
        CHECK.end();
    }

    private static void due(String call, long got, long want) {
        CHECK.due(call, got, want);
    }

    private static void booked(int n, int k, int s, long above, long below) {
        CoatsOnChairs x = new CoatsOnChairs();
        due("booked " + n + " " + k + " " + s + " above", x.booked(n, k, s, 0), above);
        due("booked " + n + " " + k + " " + s + " below", x.booked(n, k, s, 1), below);
    }

    /** "odds that no more than k come": one of one, if no more than k have booked. */
    private static void seatsForAllWhoBooked() {
        for (int k = 1; k <= 14; k++) {
            for (int n = 1; n <= k; n++) {
                for (int s = 0; s <= 10; s++) {
                    booked(n, k, s, 1, 1);
                }
            }
        }
    }

    /** One more than there are seats: all but that all come. */
    private static void oneSeatTooFew() {
        for (int n = 2; n <= 14; n++) {
            for (int s = 0; s <= 10; s++) {
                BigInteger below = BigInteger.TEN.pow(n);
                BigInteger above = below.subtract(BigInteger.valueOf(s).pow(n));
                BigInteger common = above.gcd(below);
                booked(n, n - 1, s, above.divide(common).longValueExact(), below.divide(common).longValueExact());
            }
        }
    }

    /** "each comes in s (0 to 10) of ten": 0 is never, 10 is always. */
    private static void noneComesOrAllCome() {
        for (int n = 1; n <= 14; n++) {
            for (int k = 1; k <= 14; k++) {
                booked(n, k, 0, 1, 1);
                booked(n, k, 10, n <= k ? 1 : 0, 1);
            }
        }
    }

    /** "above, below, in lowest terms" */
    private static void inLowestTerms() {
        booked(2, 1, 5, 3, 4);
        booked(2, 1, 2, 24, 25);
        booked(2, 1, 1, 99, 100);
        booked(4, 2, 5, 11, 16);
        booked(5, 2, 5, 1, 2);
        booked(14, 1, 5, 15, 16384);
        booked(14, 13, 9, 77123207545039L, 100000000000000L);
        booked(14, 13, 1, 99999999999999L, 100000000000000L);
    }

    /** "n (1 to 14)", "k (1 to 14)", "s (0 to 10)", "above (part = 0), below (1)" */
    private static void leastAndGreatestBooked() {
        CoatsOnChairs x = new CoatsOnChairs();
        for (int part = 0; part < 2; part++) {
            due("the least of all", x.booked(1, 1, 0, part), 1);
            due("the greatest of all", x.booked(14, 14, 10, part), 1);
            for (int wrong : new int[] {0, 15, -1, LOWEST, HIGHEST}) {
                due("n " + wrong, x.booked(wrong, 1, 1, part), BAD);
                due("k " + wrong, x.booked(1, wrong, 1, part), BAD);
            }
            for (int wrong : new int[] {-1, 11, LOWEST, HIGHEST}) {
                due("s " + wrong, x.booked(1, 1, wrong, part), BAD);
            }
        }
        for (int wrong : new int[] {-1, 2, LOWEST, HIGHEST}) {
            due("part " + wrong, x.booked(1, 1, 1, wrong), BAD);
        }
    }

    /** "these odds are q of a hundred (0 to 100) or more" */
    private static void qOfAHundredOrMore() {
        CoatsOnChairs x = new CoatsOnChairs();
        // k, s, q, n: three of four of two, a half of three and of five, 11 of 16 of four, seven of eight of three.
        int[][] want = {{1, 5, 75, 2}, {1, 5, 76, 1}, {1, 5, 50, 3}, {1, 5, 51, 2}, {2, 5, 50, 5}, {2, 5, 51, 4}, {2, 5, 68, 4},
            {2, 5, 69, 3}, {2, 5, 87, 3}, {2, 5, 88, 2}, {13, 9, 77, 14}, {13, 9, 78, 13}, {1, 1, 99, 2}, {1, 1, 100, 1},
            {13, 1, 99, 14}, {13, 1, 100, 13}};
        for (int[] w : want) {
            due("over " + w[0] + " " + w[1] + " " + w[2], x.over(w[0], w[1], w[2]), w[3]);
        }
    }

    /** q = 0 is always so, q = 100 only if it is sure. */
    private static void noOddsAskedForOrAll() {
        for (int k = 1; k <= 14; k++) {
            CoatsOnChairs x = new CoatsOnChairs();
            for (int s = 0; s <= 10; s++) {
                due("over " + k + " " + s + " 0", x.over(k, s, 0), 14);
                due("over " + k + " " + s + " 100", x.over(k, s, 100), s == 0 ? 14 : k);
            }
            due("all come: over " + k, x.over(k, 10, 1), k);
        }
    }

    /** "the greatest n (k to 14)" */
    private static void overFromKToFourteen() {
        for (int q = 0; q <= 100; q++) {
            due("14 seats, q = " + q, new CoatsOnChairs().over(14, 10, q), 14);
        }
        CoatsOnChairs x = new CoatsOnChairs();
        for (int wrong : new int[] {0, 15, -1, LOWEST, HIGHEST}) {
            due("k " + wrong, x.over(wrong, 5, 50), BAD);
        }
        for (int wrong : new int[] {-1, 11, LOWEST, HIGHEST}) {
            due("s " + wrong, x.over(5, wrong, 50), BAD);
        }
        for (int wrong : new int[] {-1, 101, LOWEST, HIGHEST}) {
            due("q " + wrong, x.over(5, 5, wrong), BAD);
        }
    }

    private static void dare(String text, int m, int n, int back, int of) {
        CoatsOnChairs x = Check.laid(text);
        due("dare " + m + " " + n + " of " + text, x.dare(m, n, 0), back);
        due("dare " + m + " " + n + " of how many of " + text, x.dare(m, n, 1), of);
    }

    /** "of READERS that go off (P below M)" */
    private static void goOffIfPIsBelowM() {
        dare("s0;r0,10,9,5,0,0,0;", 0, 99, 1, 1);
        dare("s0;r0,10,10,5,0,0,0;", 0, 99, NONE, NONE);
        dare("s0;r0,10,11,5,0,0,0;", 0, 99, NONE, NONE);
        dare("s0;r0,1,1,5,0,0,0;", 0, 99, NONE, NONE);
        dare("s0;r0,2,1,5,0,0,0;", 0, 99, 1, 1);
        dare("s0;r0,199,198,5,0,0,0;", 0, 99, 1, 1);
        dare("s0;r0,199,199,5,0,0,0;", 0, 99, NONE, NONE);
        CoatsOnChairs x = Check.laid("s0;r0,10,9,5,0,0,0;");
        x.hold(0, false);
        due("whether it holds or not", x.dare(0, 99, 1), 1);
    }

    /** "for more than m MINUTES (0 to 98; Q above m)" */
    private static void offForMoreThanM() {
        for (int q = 1; q <= 99; q++) {
            String text = "s0;r0,10,9," + q + ",0,0,0;";
            dare(text, q - 1, 99, 1, 1);
            if (q <= 98) {
                dare(text, q, 99, NONE, NONE);
            }
        }
        CoatsOnChairs x = Check.laid("s0;r0,10,9,99,0,0,0;");
        for (int wrong : new int[] {-1, 99, LOWEST, HIGHEST}) {
            due("m " + wrong, x.dare(wrong, 1, 0), BAD);
        }
    }

    /** "how many are back within n more (1 to 99; Q is m and n or less)" */
    private static void backWithinNMore() {
        for (int q = 2; q <= 99; q++) {
            String text = "s0;r0,10,9," + q + ",0,0,0;";
            dare(text, 0, q, 1, 1);
            dare(text, 0, q - 1, 0, 1);
            dare(text, q - 1, 1, 1, 1);
            dare(text, q - 2, 1, 0, 1);
        }
        CoatsOnChairs x = Check.laid("s0;r0,10,9,99,0,0,0;");
        due("the greatest m and n", x.dare(98, 99, 0), 1);
        for (int wrong : new int[] {0, -1, 100, LOWEST, HIGHEST}) {
            due("n " + wrong, x.dare(0, wrong, 0), BAD);
        }
        for (int wrong : new int[] {-1, 2, LOWEST, HIGHEST}) {
            due("what " + wrong, x.dare(0, 1, wrong), BAD);
        }
    }

    /** "none": nobody goes off for so long; if one does, but is not back in time, it is 0 of 1. */
    private static void dareOfNone() {
        dare("s0;r0,10,9,5,0,0,0;r0,10,10,50,0,0,0;", 5, 99, NONE, NONE);
        dare("s0;r0,10,9,5,0,0,0;r0,10,10,50,0,0,0;", 4, 1, 1, 1);
        dare("s0;r0,10,9,5,0,0,0;r0,10,9,50,0,0,0;", 5, 44, 0, 1);
        dare("s0;r0,10,9,5,0,0,0;r0,10,9,50,0,0,0;", 5, 45, 1, 1);
    }

    private static void dareOfEight() {
        StringBuilder text = new StringBuilder("s0;");
        for (int i = 1; i <= 8; i++) {
            text.append("r0,10,9,").append(10 * i).append(",0,0,0;");
        }
        for (int n = 1; n <= 99; n++) {
            dare(text.toString(), 0, n, Math.min(8, n / 10), 8);
        }
        for (int m = 0; m <= 79; m++) {
            dare(text.toString(), m, 99, 8 - m / 10, 8 - m / 10);
        }
    }

    /** Readers who want a minute and do not seek: who comes in a minute in which a lower one comes is shut out. */
    private static String minutes(int v) {
        StringBuilder text = new StringBuilder("s0;w0;v" + v + ";");
        for (int a : COMES) {
            text.append('r').append(a).append(",1,1,1,0,0,0;");
        }
        return text.toString();
    }

    private static int shutOut(int z, int v) {
        Set<Integer> taken = new HashSet<>();
        for (int i = 0; i < COMES.length; i++) {
            BigInteger x = BigInteger.valueOf(7919).multiply(BigInteger.valueOf(z)).add(BigInteger.valueOf(6151L * i + 1));
            taken.add(COMES[i] + x.pow(2).mod(BigInteger.valueOf(65521)).mod(BigInteger.valueOf(v + 1)).intValue());
        }
        return COMES.length - taken.size();
    }

    /** "READER i comes (((x times x) modulo 65521) modulo (V and 1)) MINUTES later" */
    private static void laterByADraw() {
        for (int a = 0; a <= 30; a++) {
            // By z = 1 the draws are 22803 and 54100: modulo 31 they are 18 and 5.
            CoatsOnChairs x = Check.laid("s0;r0,1,1,1,0,0,0;r" + a + ",1,1,1,0,0,0;w0;v30;");
            due("18 beside 5 and " + a, x.drawn(1, 0), a == 13 ? 1 : 0);
        }
        // By z = 9999 x of reader 7 is 79225139, whose square is far beyond an int.
        CoatsOnChairs last = Check.laid(minutes(30));
        due("by 9999", last.drawn(9999, 0), shutOut(9999, 30));
    }

    /** "A DAY by z (0 to 9999)" */
    private static void drawsOfNoughtToTheLast() {
        for (int from : new int[] {0, 1000, 4990, 9900}) {
            CoatsOnChairs x = Check.laid(minutes(9));
            for (int z = from; z < from + 100; z++) {
                due("drawn " + z, x.drawn(z, z % 5), shutOut(z, 9));
            }
        }
        CoatsOnChairs x = Check.laid(minutes(9));
        for (int wrong : new int[] {-1, 10000, LOWEST, HIGHEST}) {
            due("drawn " + wrong, x.drawn(wrong, 0), BAD);
            due("ten " + wrong, x.ten(wrong, 0), BAD);
        }
        for (int wrong : new int[] {-1, 5, LOWEST, HIGHEST}) {
            due("drawn by " + wrong, x.drawn(0, wrong), BAD);
            due("ten by " + wrong, x.ten(0, wrong), BAD);
        }
    }

    /** "V and 1": V = 0 leaves all as they come, V = 30 is 30 minutes at most. */
    private static void vAndOne() {
        for (int v = 0; v <= 30; v++) {
            CoatsOnChairs x = Check.laid(minutes(v));
            for (int z = 0; z < 40; z++) {
                due("V " + v + " by " + z, x.drawn(z, 0), v == 0 ? 2 : shutOut(z, v));
            }
            due("without a draw, V " + v, x.day(0, 2), 2);
        }
    }

    /** "TEN: of ten (z, z and 1, ..)" */
    private static void tenDays() {
        for (int v : new int[] {1, 9, 30}) {
            CoatsOnChairs x = Check.laid(minutes(v));
            for (int z = 0; z < 100; z++) {
                due("ten " + z + " V " + v, x.ten(z, z % 5), goodOfTen(z, v));
            }
        }
    }

    private static int goodOfTen(int z, int v) {
        int good = 0;
        for (int k = 0; k < 10; k++) {
            good += shutOut((z + k) % 10000, v) == 0 ? 1 : 0;
        }
        return good;
    }

    /** "modulo 10000" */
    private static void tenWrapsAround() {
        boolean seen = false;
        for (int v : new int[] {9, 20, 30}) {
            CoatsOnChairs x = Check.laid(minutes(v));
            for (int z = 9980; z <= 9999; z++) {
                due("ten " + z + " V " + v, x.ten(z, 0), goodOfTen(z, v));
                int beyond = 0;
                for (int k = 0; k < 10; k++) {
                    beyond += shutOut(z + k, v) == 0 ? 1 : 0;
                }
                seen |= beyond != goodOfTen(z, v);
            }
        }
        due("without going back to 0 it would be another answer", seen ? 1 : 0, 1);
    }

    /** "in how many nobody is SHUT OUT by a RULE": 0 to 10. */
    private static void tenInHowMany() {
        String two = "s0;r0,1,1,1,0,0,0;r0,1,1,1,0,0,0;w0;";
        for (int rule = 0; rule < 5; rule++) {
            due("no day by " + rule, Check.laid(two).ten(9995, rule), 0);
            due("every day by " + rule, Check.laid("s0;" + two).ten(9995, rule), 10);
        }
        // Held from 1 on, to 21: by NONE it is free at 2, by DARING for who is bold by 9.
        CoatsOnChairs x = Check.laid("s0;r0,10,2,20,0,9,0;r2,5,5,1,0,0,9;w2;");
        int[] want = {0, 10, 0, 0, 10};
        for (int rule = 0; rule < 5; rule++) {
            due("by the rule " + rule, x.ten(0, rule), want[rule]);
            due("shut out by the rule " + rule, x.drawn(0, rule), want[rule] == 0 ? 1 : 0);
        }
        x.hold(0, false);
        due("by HOLDERS as they are", x.ten(0, 0), 10);
        due("by HOLDERS as they are", x.drawn(0, 0), 0);
    }

    /** A day by z has its minute 399, too. */
    private static void shutOutInTheLastMinute() {
        // Reader 0 is off behind 249, back at 300 and shut out at 399, or back at 301 and seeks still.
        for (int q = 51; q <= 52; q++) {
            CoatsOnChairs x = Check.laid("s0;r199,199,51," + q + ",0,0,0;r199,199,199,1,0,0,0;w99;");
            x.hold(0, false);
            for (int rule = 0; rule < 5; rule++) {
                due("drawn by " + rule, x.drawn(9999, rule), q == 51 ? 1 : 0);
                due("ten by " + rule, x.ten(9999, rule), q == 51 ? 0 : 10);
            }
        }
    }

    private static void drawnChangesNothing() {
        CoatsOnChairs x = Check.laid(minutes(30));
        x.drawn(9999, 0);
        x.ten(9999, 0);
        due("nobody comes later but on that day", x.day(0, 2), 2);
        for (int i = 0; i < COMES.length; i++) {
            due("A of " + i, x.reader(i, 0), COMES[i]);
            due("comes then: " + i, x.does(0, COMES[i], i), 4);
            due("not ahead of it: " + i, COMES[i] == 0 ? 0 : x.does(0, COMES[i] - 1, i), 0);
        }
    }

    /** "HOLDERS are all at first (when LAID); one may be told not to hold, or to." */
    private static void holdersAtFirst() {
        due("at first", new CoatsOnChairs().count(3), 1);
        CoatsOnChairs x = Check.laid(minutes(0));
        due("when laid", x.count(3), 8);
        x.hold(3, false);
        due("but one", x.count(3), 7);
        x.lay();
        due("when laid again", x.count(3), 8);
    }

    /** "KEPT are HOLDERS: 2 at most."; "KEPT: how many. FULL." */
    private static void keptTwoAtMost() {
        CoatsOnChairs x = new CoatsOnChairs();
        due("one", x.keep(), 1);
        due("two", x.keep(), 2);
        due("a third", x.keep(), FULL);
        due("a third again", x.keep(), FULL);
        due("two still", x.count(4), 2);
        due("back", x.back(), 1);
        due("one more fits", x.keep(), 2);
        due("and no other", x.keep(), FULL);
        x.back();
        x.back();
        due("none", x.count(4), 0);
        due("from the start", x.keep(), 1);
    }

    /** "As KEPT last ..: how many are left." */
    private static void asKeptLast() {
        CoatsOnChairs x = Check.laid(minutes(0));
        x.hold(0, false);
        x.keep();
        x.hold(7, false);
        x.keep();
        for (int i = 0; i < 8; i++) {
            x.hold(i, i == 3);
        }
        due("full", x.keep(), FULL);
        due("what was refused is not kept", x.back(), 1);
        for (int i = 0; i < 8; i++) {
            due("the second: " + i, x.reader(i, 7), i == 0 || i == 7 ? 0 : 1);
        }
        due("the first one", x.back(), 0);
        for (int i = 0; i < 8; i++) {
            due("the first: " + i, x.reader(i, 7), i == 0 ? 0 : 1);
        }
    }

    /** "(it is KEPT no more then)"; "NO." */
    private static void keptNoMore() {
        CoatsOnChairs x = Check.laid(minutes(0));
        due("nothing kept", x.back(), NO);
        due("all hold", x.count(3), 8);
        x.hold(1, false);
        due("nothing kept", x.back(), NO);
        due("as it was", x.count(3), 7);
        x.keep();
        x.hold(1, true);
        due("back", x.back(), 0);
        due("seven hold", x.count(3), 7);
        x.hold(2, false);
        due("no more", x.back(), NO);
        due("six hold still", x.count(3), 6);
    }

    /** What is kept does not go with what comes later: neither hold nor wipe changes it, and lay ends it. */
    private static void keptAsItWas() {
        CoatsOnChairs x = Check.laid(minutes(0));
        x.keep();
        for (int i = 0; i < 8; i++) {
            x.hold(i, false);
        }
        x.wipe();
        due("kept still", x.count(4), 1);
        due("not laid", x.lay(), NO);
        due("kept still", x.count(4), 1);
        due("back", x.back(), 0);
        due("all hold", x.count(3), 8);
        x.keep();
        x.keep();
        Check.put(x, "s0;r0,1,1,1,0,0,0;");
        due("laid", x.lay(), 1);
        due("nothing kept", x.count(4), 0);
        due("no way back", x.back(), NO);
        due("one holder", x.count(3), 1);
    }

    /** "How many: 0 SEATS, 1 READERS, 2 bytes of THE TEXT, 3 HOLDERS, 4 KEPT. BAD." */
    private static void howManyOfEach() {
        String most = "s0;".repeat(10) + "r0,1,1,1,0,0,0;".repeat(8) + "w001;".repeat(50);
        CoatsOnChairs x = Check.laid(most);
        x.keep();
        x.keep();
        int[] full = {10, 8, 400, 8, 2};
        CoatsOnChairs y = new CoatsOnChairs();
        y.hold(0, false);
        int[] least = {1, 1, 0, 0, 0};
        for (int what = 0; what < 5; what++) {
            due("full: " + what, x.count(what), full[what]);
            due("least: " + what, y.count(what), least[what]);
        }
    }

    private static void wrongNumbers() {
        for (int what : new int[] {-1, 5, LOWEST, HIGHEST}) {
            due("count " + what, new CoatsOnChairs().count(what), BAD);
        }
    }
}
