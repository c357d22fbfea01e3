/** The edges that the document names for holding and for rounds (promises 14 to 19), each sentence in a method of its own. */
public final class HoldingEdgesTest {
    private static final int BAD = -1, NO = -2, NONE = -4;
    private static final int LOWEST = Integer.MIN_VALUE, HIGHEST = Integer.MAX_VALUE;
    private static final int ALL = 0, NOBODY = 1, CARDS = 2, LAMPS = 3, DARING = 4;
    private static final Check CHECK = new Check();
    // By ALL reader 0 must hold, or is shut out at 3; reader 1 never goes off.
    private static final String GAME = "s0;r0,4,2,2,0,0,0;r2,9,9,1,0,0,0;w0;";
    // By LAMPS reader 1 is shut out at 11 if both hold; else both sit as long as they want.
    private static final String GIVES_WAY = "s0;r4,8,4,9,0,2,0;r1,7,2,5,0,2,2;w4;l4;";

    public static void main(String[] args) {
        setsAsThereAreReaders();
        theEmptySet();
        longerNotAsLong();
        heldOrNot();
        itAlone();
        howManyTheLeastTheGreatest();
        noSetRests();
        everySetRests();
        restsWhoeverHoldsNow();
        restsOfTheNextRoom();
        roundsOfOneToNinetyNine();
        roundsFromMinuteNought();
        roundsToTheLastMinute();
        howManySit();
        oftenEOrLess();
        oftenTooFewSeen();
        oftenTheGreatest();
        oftenIsNeverNone();
        porterTheGreatest();
        porterXOrFewer();
        porterNone();
        cardTheGreatest();
        cardXOrFewer();
        cardNone();
        inPlaceOfWhatIsLaid();
        asHoldersAre();
        wrongNumbers();
        CHECK.end();
    }

    private static void due(String call, long got, long want) {
        CHECK.due(call, got, want);
    }

    /** "REST of a set": of the READERS that there are. */
    private static void setsAsThereAreReaders() {
        for (int many = 1; many <= 8; many++) {
            CoatsOnChairs x = Check.laid("s0;" + "r0,1,1,1,0,0,0;".repeat(many) + "w99;");
            int all = (1 << many) - 1;
            for (int rule = 0; rule < 5; rule++) {
                due("all of " + many, x.rest(rule, all), 1);
                due("one beyond all of " + many, x.rest(rule, all + 1), BAD);
                due("a set with one who is not there, of " + many, x.rest(rule, all | 1 << many), BAD);
                due("-1 of " + many, x.rest(rule, -1), BAD);
                due("the greatest of " + many, x.rests(rule, 2), all);
            }
            due("the lowest number", x.rest(ALL, LOWEST), BAD);
            due("the highest number", x.rest(ALL, HIGHEST), BAD);
        }
    }

    /** "REST of a set (it may be 0): 1, 0." */
    private static void theEmptySet() {
        due("rests: all have seats", Check.laid("s0;" + GAME).rest(ALL, 0), 1);
        due("rests not: reader 0 would hold", Check.laid(GAME).rest(ALL, 0), 0);
        due("rests by NONE", Check.laid(GAME).rest(NOBODY, 0), 1);
    }

    /** "no READER would have SAT longer": as long is not longer. */
    private static void longerNotAsLong() {
        CoatsOnChairs x = Check.laid(GAME);
        int[] want = {0, 1, 0, 1};
        for (int set = 0; set < 4; set++) {
            due("reader 0 sits 4 or 2, reader 1 the same: " + set, x.rest(ALL, set), want[set]);
        }
        // If reader 0 holds, it is back in minute 399 and sits that one minute more: 92 or 91, 93 or 92.
        for (String off : new String[] {"91,89", "92,88"}) {
            CoatsOnChairs last = Check.laid("s0;r199,199," + off + ",0,9,9;r190,199,30,82,0,0,0;w99;");
            for (int set = 0; set < 4; set++) {
                due("a minute longer: " + set, last.rest(DARING, set), set & 1);
            }
        }
    }

    /** "(held or not)": one may gain by not holding, too. */
    private static void heldOrNot() {
        CoatsOnChairs x = Check.laid(GIVES_WAY);
        int[] want = {1, 1, 1, 0};
        for (int set = 0; set < 4; set++) {
            due("reader 1 sits 2, or 7 without holding: " + set, x.rest(LAMPS, set), want[set]);
        }
        due("it sits 2", x.sat(LAMPS, 1), 2);
        x.hold(1, false);
        due("it sits 7", x.sat(LAMPS, 1), 7);
    }

    /** "if it alone did the other thing": what two would gain together is nothing. */
    private static void itAlone() {
        CoatsOnChairs x = Check.laid("s0;r1,5,3,4,0,1,0;r1,4,3,6,0,2,2;r0,8,1,6,0,2,0;w1;");
        x.hold(2, false);
        int[] one = {5, 0, 1}, two = {0, 3, 8};
        for (int i = 0; i < 3; i++) {
            due("0 and 1 hold: " + i, x.sat(DARING, i), one[i]);
        }
        x.hold(1, false);
        x.hold(2, true);
        for (int i = 0; i < 3; i++) {
            due("1 and 2 do the other thing: " + i, x.sat(DARING, i), two[i]);
        }
        due("yet it rests", x.rest(DARING, 3), 1);
    }

    /** "RESTS: how many (what = 0), the least (1), the greatest (2)." */
    private static void howManyTheLeastTheGreatest() {
        CoatsOnChairs x = Check.laid(GAME);
        int[] all = {2, 1, 3};
        CoatsOnChairs y = Check.laid(GIVES_WAY);
        int[] lamps = {3, 0, 2};
        // One set alone rests here.
        CoatsOnChairs z = Check.laid("s0;r5,4,3,3,0,0,0;r2,9,1,7,0,0,2;w2;l4;");
        int[] one = {1, 1, 1};
        for (int what = 0; what < 3; what++) {
            due("by ALL, what " + what, x.rests(ALL, what), all[what]);
            due("by LAMPS, what " + what, y.rests(LAMPS, what), lamps[what]);
            due("one, what " + what, z.rests(LAMPS, what), one[what]);
        }
        for (int set = 0; set < 4; set++) {
            due("that one: " + set, z.rest(LAMPS, set), set == 1 ? 1 : 0);
        }
    }

    /** "none": there is no least and no greatest, and how many are 0. */
    private static void noSetRests() {
        CoatsOnChairs x = Check.laid("s0;r1,8,1,8,0,2,3;r1,6,2,7,0,3,3;r3,7,3,1,0,1,1;c3,1;l2;w2;");
        for (int set = 0; set < 8; set++) {
            due("rests not: " + set, x.rest(LAMPS, set), 0);
        }
        due("how many", x.rests(LAMPS, 0), 0);
        due("the least", x.rests(LAMPS, 1), NONE);
        due("the greatest", x.rests(LAMPS, 2), NONE);
        due("by NONE all rest", x.rests(NOBODY, 0), 8);
    }

    /** All sets of eight rest where nobody goes off, and by NONE, and where there are seats for all. */
    private static void everySetRests() {
        CoatsOnChairs stay = Check.laid("s0;" + "r0,5,5,1,0,0,0;".repeat(8));
        CoatsOnChairs off = Check.laid("s0;".repeat(8) + "r0,9,3,9,0,0,0;".repeat(8) + "c1,1;l1;");
        CoatsOnChairs few = Check.laid("s0;" + "r0,9,3,9,0,0,0;".repeat(8));
        for (int rule = 0; rule < 5; rule++) {
            due("nobody goes off by " + rule, stay.rests(rule, 0), 256);
            due("seats for all by " + rule, off.rests(rule, 0), 256);
            due("the least by " + rule, off.rests(rule, 1), 0);
            due("the greatest by " + rule, off.rests(rule, 2), 255);
        }
        due("by NONE", few.rests(NOBODY, 0), 256);
        due("one reader", new CoatsOnChairs().rests(ALL, 0), 2);
        CoatsOnChairs eighth = Check.laid("s0;" + "r150,1,1,1,0,0,0;".repeat(6) + "r2,9,9,1,0,0,0;r0,4,2,2,0,0,0;w0;");
        due("the eighth must hold: how many", eighth.rests(ALL, 0), 128);
        due("the eighth must hold: the least", eighth.rests(ALL, 1), 128);
        due("the eighth must hold: the greatest", eighth.rests(ALL, 2), 255);
    }

    /** A set is asked for: who is a HOLDER now neither counts nor changes. */
    private static void restsWhoeverHoldsNow() {
        CoatsOnChairs x = Check.laid(GAME);
        for (int now = 0; now < 4; now++) {
            x.hold(0, (now & 1) == 1);
            x.hold(1, (now & 2) == 2);
            due("the least, while " + now + " hold", x.rests(ALL, 1), 1);
            due("rests, while " + now + " hold", x.rest(ALL, 3), 1);
            due("rests not, while " + now + " hold", x.rest(ALL, 2), 0);
            due("reader 0 as it was", x.reader(0, 7), now & 1);
            due("reader 1 as it was", x.reader(1, 7), now >> 1);
            due("a day is by those who hold now: " + now, x.sat(ALL, 0), (now & 1) == 1 ? 4 : 2);
        }
    }

    /** What rests in a room says nothing of the next one; a refused lay leaves it. */
    private static void restsOfTheNextRoom() {
        CoatsOnChairs x = Check.laid(GAME);
        due("reader 0 must hold", x.rests(ALL, 0), 2);
        x.wipe();
        due("not laid", x.lay(), NO);
        due("reader 0 must hold", x.rest(ALL, 0), 0);
        Check.put(x, "s0;" + GAME);
        due("not laid yet", x.rest(ALL, 0), 0);
        x.lay();
        due("seats for all", x.rest(ALL, 0), 1);
        due("seats for all", x.rests(ALL, 0), 4);
        x.wipe();
        Check.put(x, GAME + "r150,1,1,1,0,0,0;");
        x.lay();
        due("one seat, three readers", x.rest(ALL, 0), 0);
        due("one seat, three readers", x.rests(ALL, 0), 4);
        due("one seat, three readers", x.rests(ALL, 2), 7);
    }

    /** "ROUNDS of r MINUTES (1 to 99)" */
    private static void roundsOfOneToNinetyNine() {
        // It sits behind 199 to 299 and behind 399.
        CoatsOnChairs x = Check.laid("s0;r199,199,102,99,0,0,0;");
        for (int r = 1; r <= 99; r++) {
            int seen = 299 / r - 198 / r + (399 % r == 0 ? 1 : 0);
            for (int rule : new int[] {ALL, DARING}) {
                due("rounds of " + r, x.rounds(rule, r), r * seen);
            }
        }
        due("of one: what is used", x.rounds(ALL, 1), x.day(ALL, 0));
        for (int r : new int[] {0, -1, 100, LOWEST, HIGHEST}) {
            due("rounds of " + r, x.rounds(ALL, r), BAD);
        }
    }

    /** "a counter sees at MINUTES 0, r, 2 r, ..": at 0 always, behind all of it. */
    private static void roundsFromMinuteNought() {
        CoatsOnChairs once = Check.laid("s0;r0,2,2,1,0,0,0;"), never = Check.laid("s0;r0,1,1,1,0,0,0;"), later = Check.laid("s0;r1,2,2,1,0,0,0;");
        for (int r = 1; r <= 99; r++) {
            due("sits behind 0: " + r, once.rounds(ALL, r), r);
            due("sits behind none: " + r, never.rounds(ALL, r), 0);
            due("sits behind 1: " + r, later.rounds(ALL, r), r == 1 ? 1 : 0);
        }
    }

    /** "(to 399)" */
    private static void roundsToTheLastMinute() {
        // The one sits behind 199 to 299 and behind 399, the other behind 199 to 300.
        CoatsOnChairs x = Check.laid("s0;r199,199,102,99,0,0,0;"), y = Check.laid("s0;r199,199,103,99,0,0,0;");
        for (int r : new int[] {1, 3, 7, 19, 21, 57}) {
            due("399 is seen: " + r, x.rounds(ALL, r) - y.rounds(ALL, r), r == 1 || 300 % r == 0 ? 0 : r);
        }
        // Of 99 the last ones are 297 and 396: back at 294; off behind 297 and back at 396; off behind 298 and back at 397.
        due("297 and 396", Check.laid("s0;r199,199,1,95,0,0,0;").rounds(ALL, 99), 99 * 2);
        due("396 alone", Check.laid("s0;r199,199,99,99,0,0,0;").rounds(ALL, 99), 99);
        due("297 alone", Check.laid("s0;r199,199,100,99,0,0,0;").rounds(ALL, 99), 99);
    }

    /** "how many SIT; r times what he sees together" */
    private static void howManySit() {
        CoatsOnChairs eight = Check.laid("s0;".repeat(8) + "r0,199,199,1,0,0,0;".repeat(8));
        due("eight behind 0 to 197, every minute", eight.rounds(ALL, 1), 8 * 198);
        due("eight at 0 and 99", eight.rounds(ALL, 99), 99 * 16);
        due("eight at 0, 98, 196", eight.rounds(ALL, 98), 98 * 24);
        CoatsOnChairs held = Check.laid("s0;r0,9,1,50,0,0,0;");
        due("who holds at 0, 10, 20, 30, 40 does not sit, but at 50", held.rounds(ALL, 10), 10);
        due("who holds at 0 and 40 does not sit, nor at 80", held.rounds(ALL, 40), 0);
    }

    /** "OFTEN: the greatest r by which that is e (0 to 9999) or less off USED" */
    private static void oftenEOrLess() {
        // What he sees is r, and 1 is used.
        CoatsOnChairs x = Check.laid("s0;r0,2,2,1,0,0,0;");
        for (int e = 0; e <= 120; e++) {
            due("off by " + e, x.often(ALL, e), Math.min(e + 1, 99));
        }
        due("off by 9999", x.often(ALL, 9999), 99);
        for (int e : new int[] {-1, 10000, LOWEST, HIGHEST}) {
            due("off by " + e, x.often(ALL, e), BAD);
        }
    }

    /** Off is too few, too. */
    private static void oftenTooFewSeen() {
        // It sits behind 1 to 4: who goes every five minutes or more sees nobody.
        CoatsOnChairs x = Check.laid("s0;r1,5,5,1,0,0,0;");
        due("four too few are 4 off", x.often(ALL, 4), 99);
        due("four too few are more than 3 off", x.often(ALL, 3), 4);
        due("exactly", x.often(ALL, 0), 4);
    }

    /** "the greatest r", though smaller ones are further off. */
    private static void oftenTheGreatest() {
        // It sits behind 0 to 98, 99 in all: 99 sees 99, and 98 sees 196.
        CoatsOnChairs x = Check.laid("s0;r0,100,100,1,0,0,0;");
        due("98 is off", x.rounds(ALL, 98), 196);
        due("50 is off", x.rounds(ALL, 50), 100);
        due("99 is not", x.often(ALL, 0), 99);
    }

    /** "none": there is always one, as who goes every minute sees what is used. */
    private static void oftenIsNeverNone() {
        // 101 are used, a prime beyond 99.
        due("every minute alone", Check.laid("s0;r0,102,102,1,0,0,0;").often(ALL, 0), 1);
        due("nothing used", Check.laid("s0;r0,1,1,1,0,0,0;").often(ALL, 0), 99);
    }

    /** Reader 0 holds the seat from 0 on, to 99; reader 1 comes at t for a minute and does not seek. */
    private static String heldTill(int t, String cards) {
        return "s0;r0,9,1,99,0,0,0;r" + t + ",1,1,1,0,0,0;w0;" + cards;
    }

    /** "PORTER: the greatest R (1 to 99) .. by which by CARDS x (0 to 8) or fewer are SHUT OUT" */
    private static void porterTheGreatest() {
        for (int t = 1; t <= 98; t++) {
            CoatsOnChairs x = Check.laid(heldTill(t, "c1,50;"));
            due("he must have come at " + t, x.porter(0), t);
            due("one may be shut out at " + t, x.porter(1), 99);
        }
        // Held from 3 on and good for so long that he must come at 100, at 101: R divides that.
        due("R divides 100", Check.laid("s0;r0,199,4,99,0,0,0;r100,1,1,1,0,0,0;c97,1;w0;").porter(0), 50);
        due("R divides 101", Check.laid("s0;r0,199,4,99,0,0,0;r101,1,1,1,0,0,0;c98,99;w0;").porter(0), 1);
        due("99, where 98 would not do", Check.laid("s0;r0,199,4,99,0,0,0;r99,1,1,1,0,0,0;c96,1;w0;").porter(0), 99);
        due("98 alone of the great ones", Check.laid("s0;r0,199,4,99,0,0,0;r98,1,1,1,0,0,0;c95,1;w0;").porter(0), 98);
    }

    /** "x (0 to 8) or fewer" */
    private static void porterXOrFewer() {
        CoatsOnChairs x = Check.laid("s0;r0,9,1,99,0,0,0;r20,1,1,1,0,0,0;r10,1,1,1,0,0,0;w0;c1,1;");
        int[] want = {10, 20, 99, 99, 99, 99, 99, 99, 99};
        for (int few = 0; few <= 8; few++) {
            due("porter " + few, x.porter(few), want[few]);
        }
        // Seven are shut out whenever he comes: nobody can be more.
        CoatsOnChairs seven = Check.laid("s0;r0,199,199,1,0,0,0;" + "r1,1,1,1,0,0,0;".repeat(7) + "w0;");
        for (int few = 0; few <= 8; few++) {
            due("porter of seven " + few, seven.porter(few), few < 7 ? NONE : 99);
            due("card of seven " + few, seven.card(few), few < 7 ? NONE : 99);
        }
    }

    /** "none": no R helps. */
    private static void porterNone() {
        due("one sits there", Check.laid("s0;r0,50,50,1,0,0,0;r0,5,5,1,0,0,0;w0;").porter(0), NONE);
        // Held for 49 at 49: the card is good still, whenever he comes.
        due("the card is good", Check.laid(heldTill(49, "c50,1;")).porter(0), NONE);
        due("the card is good no more", Check.laid(heldTill(50, "c50,1;")).porter(0), 50);
        due("shut out in the last minute", lastMinute().porter(0), NONE);
        // Whenever he comes reader 1 has the seat for 199 minutes, and who is back at 101 is shut out; without him nobody is.
        CoatsOnChairs harm = Check.laid("s0;r0,4,3,99,0,0,0;r3,199,199,1,0,0,0;w99;c1,50;");
        due("he does harm: none", harm.porter(0), NONE);
        due("he does harm: one", harm.porter(1), 99);
        due("without him", harm.day(ALL, 2), 0);
    }

    /** Reader 0 is shut out in minute 399. */
    private static CoatsOnChairs lastMinute() {
        CoatsOnChairs x = Check.laid("s0;r199,199,51,51,0,0,0;r199,199,199,1,0,0,0;w99;");
        x.hold(0, false);
        return x;
    }

    /** "CARD: the greatest C likewise." */
    private static void cardTheGreatest() {
        for (int t = 1; t <= 98; t++) {
            CoatsOnChairs x = Check.laid(heldTill(t, "c50,1;"));
            due("good until " + t, x.card(0), t);
            due("one may be shut out at " + t, x.card(1), 99);
        }
        // He comes at 20, 40, ..
        int[][] want = {{19, NONE}, {20, 20}, {21, 20}, {39, 20}, {40, 40}, {59, 40}, {98, 80}};
        for (int[] w : want) {
            due("he comes every 20, one at " + w[0], Check.laid(heldTill(w[0], "c99,20;")).card(0), w[1]);
        }
    }

    /** "x or fewer", likewise. */
    private static void cardXOrFewer() {
        CoatsOnChairs x = Check.laid("s0;r0,9,1,99,0,0,0;r20,1,1,1,0,0,0;r10,1,1,1,0,0,0;w0;c1,1;");
        int[] want = {10, 20, 99, 99, 99, 99, 99, 99, 99};
        for (int few = 0; few <= 8; few++) {
            due("card " + few, x.card(few), want[few]);
        }
    }

    /** "none": no C helps. */
    private static void cardNone() {
        due("one sits there", Check.laid("s0;r0,50,50,1,0,0,0;r0,5,5,1,0,0,0;w0;").card(0), NONE);
        due("he comes too late", Check.laid(heldTill(50, "c1,51;")).card(0), NONE);
        due("he comes just then", Check.laid(heldTill(50, "c1,50;")).card(0), 50);
        due("shut out in the last minute", lastMinute().card(0), NONE);
    }

    /** "in place of R": R counts for nothing, and C and R as they are laid stay. */
    private static void inPlaceOfWhatIsLaid() {
        for (int other : new int[] {1, 7, 30, 99}) {
            CoatsOnChairs x = Check.laid(heldTill(30, "c5," + other + ";"));
            int empty = x.day(CARDS, 1);
            due("whatever R is", x.porter(0), 30);
            due("R stays", x.day(CARDS, 1), empty);
            CoatsOnChairs y = Check.laid(heldTill(30, "c" + other + ",5;"));
            empty = y.day(CARDS, 1);
            due("whatever C is", y.card(0), 30);
            due("C stays", y.day(CARDS, 1), empty);
        }
        CoatsOnChairs without = Check.laid(heldTill(45, ""));
        due("C is 30 without", without.porter(0), 45);
        due("C is 30 without", Check.laid(heldTill(29, "")).porter(0), NONE);
        due("R is 20 without", without.card(0), 40);
    }

    /** A day is by the HOLDERS as they are. */
    private static void asHoldersAre() {
        CoatsOnChairs x = Check.laid(heldTill(30, "c99,99;"));
        due("held: porter", x.porter(0), NONE);
        due("held: card", x.card(0), NONE);
        due("held: used behind 99 to 105", x.rounds(ALL, 1), 7);
        x.hold(0, false);
        due("free: porter", x.porter(0), 99);
        due("free: card", x.card(0), 99);
        x.hold(0, true);
        due("held again: porter", x.porter(0), NONE);
        CoatsOnChairs game = Check.laid(GAME);
        due("held: used", game.rounds(ALL, 1), 2);
        // It sits behind 0 and 3: of three he sees both, six for two; of two he sees 0 alone, two for two; of 99 he sees 99.
        due("held: often", game.often(ALL, 0), 2);
        game.hold(0, false);
        due("free: used", game.rounds(ALL, 1), 9);
    }

    /** "BAD: a number is none that is told" */
    private static void wrongNumbers() {
        CoatsOnChairs x = Check.laid(GAME);
        for (int rule : new int[] {-1, 5, LOWEST, HIGHEST}) {
            due("rest by " + rule, x.rest(rule, 0), BAD);
            due("rests by " + rule, x.rests(rule, 0), BAD);
            due("rounds by " + rule, x.rounds(rule, 1), BAD);
            due("often by " + rule, x.often(rule, 0), BAD);
        }
        for (int what : new int[] {-1, 3, LOWEST, HIGHEST}) {
            due("rests, what " + what, x.rests(ALL, what), BAD);
        }
        for (int few : new int[] {-1, 9, LOWEST, HIGHEST}) {
            due("porter " + few, x.porter(few), BAD);
            due("card " + few, x.card(few), BAD);
        }
    }
}
