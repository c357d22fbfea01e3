/** The edges that the document names for a day (promises 9 to 13), each sentence in a method of its own. */
public final class DayEdgesTest {
    private static final int BAD = -1, NONE = -4;
    private static final int LOWEST = Integer.MIN_VALUE, HIGHEST = Integer.MAX_VALUE;
    private static final int ALL = 0, NOBODY = 1, CARDS = 2, LAMPS = 3, DARING = 4;
    private static final int NOT_THERE = 0, SEEKS = 1, SITS = 2, OFF = 3, GONE = 4;
    private static final Check CHECK = new Check();

    public static void main(String[] args) {
        minutesOfADay();
        firstNotThere();
        backQMinutesLater();
        sitsAgainWhereItHeld();
        seeksFromNowOn();
        thrownOutIfItHeld();
        backAheadOfWhatComesFree();
        aMinuteThatRDivides();
        cardsGoodForC();
        lampsTellForL();
        freeForThoseWhoSeek();
        byTheOthersNoneComesFree();
        whoComesAtT();
        theLowestFirst();
        mostOfWhatTheyLike();
        ofTheFreeSeats();
        daringIfNoneIsFree();
        theLowestHeldOne();
        nobodyElseDares();
        shutOutBehindW();
        aSeatInTheLastMinute();
        sinceItCameBack();
        withMInAll();
        withPInAll();
        heldIfAHolder();
        behindTheLastMinute();
        whoSitsAndWhoHolds();
        usedAndEmpty();
        shutOutAndThrownOut();
        satAtLeastAndAtMost();
        betteredByOneOfThree();
        betteredAsHoldersAre();
        wrongNumbers();
        CHECK.end();
    }

    private static void due(String call, long got, long want) {
        CHECK.due(call, got, want);
    }

    /** "A DAY by a RULE is MINUTES 0 to 399." */
    private static void minutesOfADay() {
        CoatsOnChairs first = Check.laid("s0;r0,1,1,1,0,0,0;");
        // Reader 0 is off behind 396, back at 398, 399, 400.
        CoatsOnChairs two = Check.laid("s0;r199,199,198,2,0,0,0;");
        CoatsOnChairs three = Check.laid("s0;r199,199,198,3,0,0,0;");
        CoatsOnChairs four = Check.laid("s0;r199,199,198,4,0,0,0;");
        for (int rule = 0; rule < 5; rule++) {
            due("minute 0 is one by " + rule, first.does(rule, 0, 0), GONE);
            due("it sat in minute 0 by " + rule, first.sat(rule, 0), 1);
            due("gone in minute 399, too, by " + rule, first.does(rule, 399, 0), GONE);
            due("back at 398 by " + rule, two.does(rule, 397, 0), OFF);
            due("back at 398 by " + rule, two.does(rule, 398, 0), GONE);
            due("back at 399 by " + rule, three.does(rule, 398, 0), OFF);
            due("back at 399 by " + rule, three.does(rule, 399, 0), GONE);
            due("minute 399 is one by " + rule, three.sat(rule, 0), 199);
            due("empty to 398 by " + rule, three.day(rule, 1), rule == NOBODY ? 0 : 3);
            due("back at 400 is never by " + rule, four.does(rule, 399, 0), OFF);
            due("there is no minute 400 by " + rule, four.sat(rule, 0), 198);
            due("empty to 399 by " + rule, four.day(rule, 1), rule == NOBODY ? 0 : 4);
            due("used to 395 by " + rule, four.day(rule, 0), 197);
        }
    }

    /** "A READER is first NOT THERE" */
    private static void firstNotThere() {
        for (int a : new int[] {1, 2, 100, 198, 199}) {
            CoatsOnChairs x = Check.laid("s0;r" + a + ",5,5,1,0,0,0;");
            due("not there at 0, A = " + a, x.does(ALL, 0, 0), NOT_THERE);
            due("not there yet, A = " + a, x.does(ALL, a - 1, 0), NOT_THERE);
            due("there, A = " + a, x.does(ALL, a, 0), SITS);
        }
        due("there at once, A = 0", Check.laid("s0;r0,5,5,1,0,0,0;").does(ALL, 0, 0), SITS);
    }

    /** "Who went OFF Q MINUTES ago comes back" */
    private static void backQMinutesLater() {
        for (int q = 1; q <= 99; q++) {
            CoatsOnChairs x = Check.laid("s0;r0,9,3," + q + ",0,0,0;");
            for (int rule : new int[] {ALL, NOBODY, DARING}) {
                due("goes in minute 2, Q = " + q, x.does(rule, 2, 0), OFF);
                due("off still, Q = " + q, x.does(rule, 1 + q, 0), OFF);
                due("back, Q = " + q, x.does(rule, 2 + q, 0), SITS);
                due("six minutes more, Q = " + q, x.does(rule, 6 + q, 0), SITS);
                due("gone, Q = " + q, x.does(rule, 7 + q, 0), GONE);
            }
        }
    }

    /** "it SITS again, if its SEAT is still HELD by it": there, though it likes a free one better. */
    private static void sitsAgainWhereItHeld() {
        CoatsOnChairs x = Check.laid("s3;s0;r0,3,3,1,3,0,0;r0,9,2,5,3,0,0;l3;");
        for (int rule : new int[] {ALL, CARDS, DARING}) {
            due("the liked one is free by " + rule, x.seat(rule, 5, 0, 0), NONE);
            due("where it held by " + rule, x.seat(rule, 6, 1, 0), 1);
            due("not where it likes by " + rule, x.seat(rule, 6, 0, 0), NONE);
            due("not thrown out by " + rule, x.day(rule, 4), 0);
        }
        for (int rule : new int[] {NOBODY, LAMPS}) {
            due("held no more: where it likes by " + rule, x.seat(rule, 6, 0, 0), 1);
            due("not where it sat by " + rule, x.seat(rule, 6, 1, 0), NONE);
        }
        x.hold(1, false);
        due("no holder: where it likes", x.seat(ALL, 6, 0, 0), 1);
        // Reader 1 dares at 1 and holds the seat itself from 1 on: it is not held by reader 0 any more.
        CoatsOnChairs other = Check.laid("s0;r0,9,1,9,0,0,0;r1,9,1,50,0,9,0;w99;");
        due("another one holds it", other.seat(DARING, 1, 0, 1), 1);
        due("so it does not sit", other.does(DARING, 9, 0), SEEKS);
        due("and its holder does", other.seat(DARING, 51, 0, 0), 1);
    }

    /** "else it SEEKS from now on": in the same minute. */
    private static void seeksFromNowOn() {
        CoatsOnChairs x = Check.laid("s0;r0,9,2,5,0,0,0;r2,9,9,1,0,0,0;w9;");
        x.hold(0, false);
        due("off", x.does(ALL, 5, 0), OFF);
        due("seeks when it is back", x.does(ALL, 6, 0), SEEKS);
        due("seeks while the other one sits", x.does(ALL, 10, 0), SEEKS);
        due("sits then", x.does(ALL, 11, 0), SITS);
        CoatsOnChairs alone = Check.laid("s0;r0,9,2,5,0,0,0;");
        alone.hold(0, false);
        due("sits at once where it is free", alone.does(ALL, 6, 0), SITS);
        due("sat all", alone.sat(ALL, 0), 9);
    }

    /** "and is THROWN OUT, if it held its SEAT when it went." */
    private static void thrownOutIfItHeld() {
        CoatsOnChairs x = Check.laid("s0;s0;r0,9,2,5,0,0,0;c3,1;l3;");
        int[] thrown = {0, 0, 1, 1, 0};
        for (int rule = 0; rule < 5; rule++) {
            due("by " + rule, x.day(rule, 4), thrown[rule]);
            due("it finds a seat at once by " + rule, x.does(rule, 6, 0), SITS);
        }
        x.hold(0, false);
        for (int rule = 0; rule < 5; rule++) {
            due("no holder by " + rule, x.day(rule, 4), 0);
        }
        // Off behind 300 and back at 399; off behind 301 and never back.
        due("back in the last minute", Check.laid("s0;r199,199,102,99,0,0,0;l5;").day(LAMPS, 5), 1);
        CoatsOnChairs never = Check.laid("s0;r199,199,103,99,0,0,0;l5;");
        due("its seat is free", never.seat(LAMPS, 399, 0, 1), NONE);
        due("but it does not come back", never.day(LAMPS, 5), 0);
        CoatsOnChairs both = Check.laid("s0;r0,9,2,5,0,0,0;r2,30,30,1,0,0,0;l1;w2;");
        due("thrown out and shut out", both.day(LAMPS, 5), 1);
        due("thrown out and shut out", both.day(LAMPS, 3), 1);
    }

    /** 1 is ahead of 2: who is back in the minute in which its seat would come free has it still. */
    private static void backAheadOfWhatComesFree() {
        for (int minutes = 1; minutes <= 98; minutes++) {
            String numbers = "c" + minutes + ",1;l" + minutes + ";";
            CoatsOnChairs as = Check.laid("s0;r0,9,2," + minutes + ",0,0,0;" + numbers);
            CoatsOnChairs more = Check.laid("s0;r0,9,2," + (minutes + 1) + ",0,0,0;" + numbers);
            for (int rule : new int[] {CARDS, LAMPS}) {
                due("back just then: " + minutes, as.day(rule, 4), 0);
                due("held up to then: " + minutes, as.day(rule, 1), minutes);
                due("back a minute later: " + minutes, more.day(rule, 4), 1);
                due("held up to then: " + minutes, more.day(rule, 1), minutes);
            }
        }
        CoatsOnChairs most = Check.laid("s0;r0,9,2,99,0,0,0;c99,1;l99;");
        due("99 minutes by CARDS", most.day(CARDS, 4), 0);
        due("99 minutes by LAMPS", most.day(LAMPS, 4), 0);
    }

    /** "by RULE 2 CARDS, in a MINUTE that R divides" */
    private static void aMinuteThatRDivides() {
        for (int r = 1; r <= 98; r++) {
            CoatsOnChairs x = Check.laid("s0;r0,9,1,99,0,0,0;c1," + r + ";");
            due("held until then, R = " + r, x.seat(CARDS, r - 1, 0, 1), 0);
            due("free then, R = " + r, x.seat(CARDS, r, 0, 1), NONE);
            due("minutes held, R = " + r, x.day(CARDS, 1), r);
        }
        // Off behind 98, 99, 100, back at 197, 198, 199; the porter comes at 99 and at 198.
        due("R = 99: at 99", Check.laid("s0;r0,199,99,99,0,0,0;c1,99;").day(CARDS, 1), 1);
        due("R = 99: neither at 99 nor at 198", Check.laid("s0;r0,199,100,99,0,0,0;c1,99;").day(CARDS, 1), 99);
        due("R = 99: at 198", Check.laid("s0;r0,199,101,99,0,0,0;c1,99;").day(CARDS, 1), 98);
        // Held from 298 on, to 396.
        due("R = 99: at 396", Check.laid("s0;r199,199,100,99,0,0,0;c1,99;").seat(CARDS, 395, 0, 1), 0);
        due("R = 99: at 396", Check.laid("s0;r199,199,100,99,0,0,0;c1,99;").seat(CARDS, 396, 0, 1), NONE);
    }

    /** "those HELD for C MINUTES or more" */
    private static void cardsGoodForC() {
        for (int c = 1; c <= 98; c++) {
            CoatsOnChairs x = Check.laid("s0;r0,9,1,99,0,0,0;c" + c + ",1;l1;");
            due("held for less, C = " + c, x.seat(CARDS, c - 1, 0, 1), 0);
            due("held for C, C = " + c, x.seat(CARDS, c, 0, 1), NONE);
        }
        int[][] everySeventh = {{1, 7}, {6, 7}, {7, 7}, {8, 14}, {13, 14}, {14, 14}, {15, 21}};
        for (int[] one : everySeventh) {
            due("C = " + one[0], Check.laid("s0;r0,9,1,99,0,0,0;c" + one[0] + ",7;").day(CARDS, 1), one[1]);
        }
        // Held from 3 on: at 7 for 4, at 14 for 11.
        due("from the minute in which it went: 4", Check.laid("s0;r0,9,4,99,0,0,0;c4,7;").seat(CARDS, 7, 0, 1), NONE);
        due("from the minute in which it went: 5", Check.laid("s0;r0,9,4,99,0,0,0;c5,7;").seat(CARDS, 13, 0, 1), 0);
        due("from the minute in which it went: 11", Check.laid("s0;r0,9,4,99,0,0,0;c11,7;").seat(CARDS, 14, 0, 1), NONE);
    }

    /** "by 3 LAMPS those HELD for L or more" */
    private static void lampsTellForL() {
        for (int l = 1; l <= 98; l++) {
            CoatsOnChairs x = Check.laid("s0;r0,9,4,99,0,0,0;c1,1;l" + l + ";");
            due("held for less, L = " + l, x.seat(LAMPS, 3 + l - 1, 0, 1), 0);
            due("held for L, L = " + l, x.seat(LAMPS, 3 + l, 0, 1), NONE);
            due("minutes held, L = " + l, x.day(LAMPS, 1), l);
        }
    }

    /** 2 is ahead of 3: what comes free is taken in that very minute, be it the last one in which one seeks. */
    private static void freeForThoseWhoSeek() {
        for (int minutes = 1; minutes <= 98; minutes++) {
            String room = "s0;r0,9,1,99,0,0,0;r1,5,5,1,0,0,0;c" + minutes + ",1;l" + minutes + ";w";
            CoatsOnChairs x = Check.laid(room + (minutes - 1) + ";");
            for (int rule : new int[] {CARDS, LAMPS}) {
                due("held until then: " + minutes, x.seat(rule, minutes - 1, 0, 1), 0);
                due("taken then: " + minutes, x.seat(rule, minutes, 0, 0), 1);
                due("nobody shut out: " + minutes, x.day(rule, 2), 0);
            }
            if (minutes > 1) {
                CoatsOnChairs y = Check.laid(room + (minutes - 2) + ";");
                due("gone a minute ahead by CARDS: " + minutes, y.day(CARDS, 3), 2);
                due("gone a minute ahead by LAMPS: " + minutes, y.day(LAMPS, 3), 2);
            }
        }
    }

    /** "by 0 ALL, 1 NONE, 4 DARING none." */
    private static void byTheOthersNoneComesFree() {
        CoatsOnChairs x = Check.laid("s0;r0,9,2,99,0,0,0;c1,1;l1;");
        int[] empty = {99, 0, 1, 1, 99};
        for (int rule = 0; rule < 5; rule++) {
            due("held by " + rule, x.day(rule, 1), empty[rule]);
            due("at last by " + rule, x.seat(rule, 99, 0, 1), empty[rule] == 99 ? 0 : NONE);
        }
        due("no lamp by CARDS", Check.laid("s0;r0,9,2,98,0,0,0;c99,1;l1;").day(CARDS, 1), 98);
        due("no porter by LAMPS", Check.laid("s0;r0,9,2,98,0,0,0;c1,1;l99;").day(LAMPS, 1), 98);
    }

    /** "Who comes at t SEEKS from now on." */
    private static void whoComesAtT() {
        CoatsOnChairs x = Check.laid("s0;r0,199,199,1,0,0,0;r0,1,1,1,0,0,0;r9,1,1,1,0,0,0;r198,1,1,1,0,0,0;r199,1,1,1,0,0,0;w5;");
        int[] comes = {0, 9, 198, 199};
        for (int k = 0; k < 2; k++) {
            due("seeks from " + comes[k], x.does(ALL, comes[k], k + 1), SEEKS);
            due("for five minutes " + comes[k], x.does(ALL, comes[k] + 4, k + 1), SEEKS);
            due("gone " + comes[k], x.does(ALL, comes[k] + 5, k + 1), GONE);
        }
        due("198: seeks", x.does(ALL, 198, 3), SEEKS);
        due("199: the next one has come, the lower one sits", x.does(ALL, 199, 4), SEEKS);
        due("199: the lower one sat and is gone", x.does(ALL, 199, 3), GONE);
        due("200: the next one, too", x.does(ALL, 200, 4), GONE);
        due("whom", x.day(ALL, 3), 6);
    }

    /** "One behind the other, the lowest first" */
    private static void theLowestFirst() {
        CoatsOnChairs x = Check.laid("s0;r10,5,5,1,0,0,0;r2,5,5,1,0,0,0;r0,10,10,1,0,0,0;w99;");
        due("the lower one who has just come", x.seat(ALL, 10, 0, 0), 0);
        due("goes ahead of who seeks for long", x.does(ALL, 10, 1), SEEKS);
        due("who is next", x.seat(ALL, 15, 0, 0), 1);
        CoatsOnChairs eight = Check.laid("s0;" + "r3,2,2,1,0,0,0;".repeat(8) + "w99;");
        for (int i = 0; i < 8; i++) {
            due("one behind the other: " + i, eight.seat(ALL, 3 + 2 * i, 0, 0), i);
        }
        CoatsOnChairs seats = Check.laid("s0;".repeat(8) + "r3,2,2,1,0,0,0;".repeat(8));
        for (int i = 0; i < 8; i++) {
            due("of the seats the lowest: " + i, seats.seat(ALL, 3, i, 0), i);
        }
    }

    /** "that which has most of what they like (how many bits of K), of several the lowest" */
    private static void mostOfWhatTheyLike() {
        int[] bits = {0, 1, 1, 2};
        for (int k = 0; k < 4; k++) {
            for (int three = 0; three < 64; three++) {
                int[] kinds = {three & 3, three >> 2 & 3, three >> 4};
                int due = 0;
                for (int s = 1; s < 3; s++) {
                    due = bits[kinds[s] & k] > bits[kinds[due] & k] ? s : due;
                }
                String seats = "s" + kinds[0] + ";s" + kinds[1] + ";s" + kinds[2] + ";";
                due(seats + " liked by " + k, Check.laid(seats + "r0,5,5,1," + k + ",0,0;").seat(ALL, 0, due, 0), 0);
            }
        }
    }

    /** "of the free SEATS": neither where one sits nor, but by DARING if none is free, what is held. */
    private static void ofTheFreeSeats() {
        CoatsOnChairs x = Check.laid("s3;s3;s0;r0,9,9,1,3,0,0;r0,9,1,50,3,0,0;r1,9,9,1,3,0,9;");
        for (int rule = 0; rule < 5; rule++) {
            due("one sits there by " + rule, x.seat(rule, 1, 0, 0), 0);
            due("one holds it by " + rule, x.seat(rule, 1, 1, 1), rule == NOBODY ? NONE : 1);
            due("what is left by " + rule, x.seat(rule, 1, rule == NOBODY ? 1 : 2, 0), 2);
        }
    }

    /** "by DARING .. on which T of the THING is no more than B and a tenth, cut, of the MINUTES for which it is HELD, together." */
    private static void daringIfNoneIsFree() {
        for (int t = 0; t <= 9; t++) {
            for (int b = 0; b <= 9; b++) {
                CoatsOnChairs x = Check.laid("s0;r0,9,1,99,0," + t + ",0;r1,5,5,1,0,0," + b + ";w99;");
                int when = t <= b ? 1 : 10 * (t - b);
                due("T " + t + " B " + b + " not yet", x.seat(DARING, when - 1, 0, 1), 0);
                due("T " + t + " B " + b + " now", x.seat(DARING, when, 0, 0), 1);
                due("T " + t + " B " + b + " held no more", x.seat(DARING, when, 0, 1), NONE);
                due("T " + t + " B " + b + " thrown out", x.day(DARING, 5), 1);
                due("T " + t + " B " + b + " held", x.day(DARING, 1), when);
            }
        }
        CoatsOnChairs back = Check.laid("s0;r0,9,1,90,0,9,0;r1,5,5,1,0,0,0;w99;");
        due("back in the minute in which one would dare", back.seat(DARING, 90, 0, 0), 0);
        due("so nobody is thrown out", back.day(DARING, 4), 0);
        CoatsOnChairs later = Check.laid("s0;r0,9,1,91,0,9,0;r1,5,5,1,0,0,0;w99;");
        due("back a minute later", later.seat(DARING, 90, 0, 0), 1);
        // Held from 7 on: for 9 at 16, for 10 at 17.
        CoatsOnChairs from7 = Check.laid("s0;r0,9,8,50,0,1,0;r1,5,5,1,0,0,0;w99;");
        due("held for 9", from7.seat(DARING, 16, 0, 1), 0);
        due("held for 10", from7.seat(DARING, 17, 0, 0), 1);
        CoatsOnChairs free = Check.laid("s3;s0;r0,9,1,50,0,0,0;r1,3,3,1,3,0,9;");
        due("a free one is there", free.seat(DARING, 1, 1, 0), 1);
        due("so nobody dares", free.seat(DARING, 1, 0, 1), 0);
    }

    /** "the lowest SEAT that is HELD" */
    private static void theLowestHeldOne() {
        CoatsOnChairs x = Check.laid("s0;s3;s3;r0,9,1,50,0,2,0;r0,9,1,50,0,1,0;r0,9,1,50,0,0,0;r1,3,3,1,3,0,2;");
        due("neither the liked nor the weakest", x.seat(DARING, 1, 0, 0), 3);
        due("whom", x.day(DARING, 5), 1);
        CoatsOnChairs y = Check.laid("s0;s3;s3;r0,9,1,50,0,2,0;r0,9,1,50,0,1,0;r0,9,1,50,0,0,0;r1,3,3,1,3,0,1;");
        due("of those on which it dares", y.seat(DARING, 1, 1, 0), 3);
        due("whom", y.day(DARING, 5), 2);
        CoatsOnChairs two = Check.laid("s0;s0;r0,9,1,50,0,2,0;r0,9,1,50,0,1,0;r1,3,3,1,3,0,2;r1,3,3,1,3,0,2;");
        due("the first who dares", two.seat(DARING, 1, 0, 0), 2);
        due("the second who dares", two.seat(DARING, 1, 1, 0), 3);
        CoatsOnChairs sits = Check.laid("s0;s0;r0,9,9,1,0,0,0;r0,9,1,50,0,0,0;r1,3,3,1,3,0,9;");
        due("nobody dares where one sits", sits.seat(DARING, 1, 0, 0), 0);
        due("but where one holds", sits.seat(DARING, 1, 1, 0), 2);
    }

    /** By the other rules nobody dares, however weak the thing. */
    private static void nobodyElseDares() {
        CoatsOnChairs x = Check.laid("s0;r0,9,1,10,0,0,0;r1,5,5,1,0,0,9;");
        for (int rule : new int[] {ALL, CARDS, LAMPS}) {
            due("held by " + rule, x.seat(rule, 9, 0, 1), 0);
            due("seeks by " + rule, x.does(rule, 9, 1), SEEKS);
            due("not thrown out by " + rule, x.day(rule, 4), 0);
        }
    }

    /** "it is GONE, SHUT OUT, if it sought for W MINUTES ahead of this one since it came" */
    private static void shutOutBehindW() {
        for (int w = 0; w <= 99; w++) {
            CoatsOnChairs x = Check.laid("s0;r0,199,199,1,0,0,0;r3,1,1,1,0,0,0;w" + w + ";");
            due("ahead of it, W = " + w, x.does(ALL, 2 + w, 1), w == 0 ? NOT_THERE : SEEKS);
            due("gone, W = " + w, x.does(ALL, 3 + w, 1), GONE);
            due("whom, W = " + w, x.day(ALL, 3), 2);
            due("sat nothing, W = " + w, x.sat(ALL, 1), 0);
        }
    }

    /** "If none is free", "If there is none such either": in its last minute it takes one, if there is one. */
    private static void aSeatInTheLastMinute() {
        for (int w = 0; w <= 99; w++) {
            String second = ",1,0,0,0;r3,2,2,1,0,0,0;w" + w + ";";
            CoatsOnChairs x = Check.laid("s0;r0," + (w + 3) + "," + (w + 3) + second);
            due("free in its last minute, W = " + w, x.does(ALL, 3 + w, 1), SITS);
            due("nobody shut out, W = " + w, x.day(ALL, 2), 0);
            CoatsOnChairs y = Check.laid("s0;r0," + (w + 4) + "," + (w + 4) + second);
            due("free a minute too late, W = " + w, y.does(ALL, 3 + w, 1), GONE);
            due("shut out, W = " + w, y.day(ALL, 2), 1);
        }
        // Held from 0 on by a thing of 1: reader 1 comes at 1 and dares at 10.
        CoatsOnChairs dares = Check.laid("s0;r0,9,1,50,0,1,0;r1,5,5,1,0,0,0;w9;");
        due("dares in its last minute", dares.does(DARING, 10, 1), SITS);
        CoatsOnChairs not = Check.laid("s0;r0,9,1,50,0,1,0;r1,5,5,1,0,0,0;w8;");
        due("gone a minute too early", not.does(DARING, 9, 1), GONE);
    }

    /** "(or came back)": what it sought ahead of that counts no more. */
    private static void sinceItCameBack() {
        // Reader 1 seeks from 0 to 3, sits at 4 and 5, is off to 8; reader 2 sits from 6 to 15.
        CoatsOnChairs x = Check.laid("s0;r0,4,4,1,0,0,0;r0,9,2,3,0,0,0;r6,10,10,1,0,0,0;w5;");
        x.hold(1, false);
        due("sought and sits", x.does(ALL, 4, 1), SITS);
        due("back", x.does(ALL, 8, 1), SEEKS);
        due("sought for four minutes", x.does(ALL, 12, 1), SEEKS);
        due("sought for five minutes", x.does(ALL, 13, 1), GONE);
        due("whom", x.day(ALL, 3), 2);
        due("not thrown out", x.day(ALL, 4), 0);
        due("sat", x.sat(ALL, 1), 2);
    }

    /** "With M in all it is GONE, its SEAT free." */
    private static void withMInAll() {
        for (int m : new int[] {1, 2, 3, 198, 199}) {
            CoatsOnChairs x = Check.laid("s0;r0," + m + ",199,1,0,0,0;r0,9,9,1,0,0,0;w99;r199,9,9,1,0,0,0;");
            due("gone, M = " + m, x.does(ALL, m - 1, 0), GONE);
            due("free behind it, M = " + m, x.seat(ALL, m - 1, 0, 0), NONE);
            due("not held, M = " + m, x.seat(ALL, m - 1, 0, 1), NONE);
            due("for the next one a minute later, M = " + m, x.seat(ALL, m, 0, 0), m < 100 ? 1 : m == 199 ? 2 : NONE);
            due("sat, M = " + m, x.sat(ALL, 0), m);
        }
        due("sits still, M = 199", Check.laid("s0;r0,199,199,1,0,0,0;").does(ALL, 197, 0), SITS);
        CoatsOnChairs parts = Check.laid("s0;r0,10,4,7,0,0,0;");
        due("4 and 5", parts.does(ALL, 14, 0), SITS);
        due("4 and 6 in all", parts.does(ALL, 15, 0), GONE);
    }

    /** "Else, with P in all, it goes OFF" (never, if M or more). */
    private static void withPInAll() {
        for (int m = 1; m <= 12; m++) {
            for (int p = 1; p <= 14; p++) {
                CoatsOnChairs x = Check.laid("s0;r0," + m + "," + p + ",5,0,0,0;");
                String where = "M " + m + " P " + p;
                due(where + " held", x.day(ALL, 1), p < m ? 5 : 0);
                due(where + " used", x.day(ALL, 0), p < m ? m - 2 : m - 1);
                due(where + " sat", x.sat(ALL, 0), m);
                due(where + " behind P", x.does(ALL, p - 1, 0), p < m ? OFF : GONE);
                // Off behind P - 1 and back at P + 4 for M - P minutes.
                int end = p < m ? m + 3 : m - 1;
                due(where + " gone", x.does(ALL, end, 0), GONE);
                if (end > 0) {
                    due(where + " not yet gone", x.does(ALL, end - 1, 0), p == m - 1 ? OFF : SITS);
                }
            }
        }
        due("P 198, M 199", Check.laid("s0;r0,199,198,1,0,0,0;").does(ALL, 197, 0), OFF);
        due("P 199, M 199", Check.laid("s0;r0,199,199,1,0,0,0;").day(ALL, 1), 0);
        due("off once alone", Check.laid("s0;r0,9,2,1,0,0,0;").day(ALL, 1), 1);
    }

    /** "its SEAT is HELD by it, if it is a HOLDER (by RULE 1 nobody is), else free." */
    private static void heldIfAHolder() {
        CoatsOnChairs x = Check.laid("s0;r0,9,2,5,0,0,0;r0,3,3,1,0,0,0;");
        for (int turn = 0; turn < 2; turn++) {
            for (int rule = 0; rule < 5; rule++) {
                boolean holds = turn == 0 && rule != NOBODY && rule != DARING;
                // By DARING reader 1 dares at 2, as T and B are both 0.
                due("behind 1 by " + rule, x.seat(rule, 1, 0, 1), turn == 0 && rule != NOBODY ? 0 : NONE);
                due("nobody sits behind 1 by " + rule, x.seat(rule, 1, 0, 0), NONE);
                due("behind 2 by " + rule, x.seat(rule, 2, 0, 0), holds ? NONE : 1);
            }
            x.hold(0, false);
        }
    }

    /** "Who is there behind MINUTE 399 stays so." */
    private static void behindTheLastMinute() {
        // Reader 0 is off behind 249; reader 1 sits from 250 on; reader 0 is back at 301 and seeks for 98 minutes.
        CoatsOnChairs x = Check.laid("s0;r199,199,51,52,0,0,0;r199,199,199,1,0,0,0;w99;");
        x.hold(0, false);
        due("back", x.does(ALL, 301, 0), SEEKS);
        due("seeks to the end", x.does(ALL, 399, 0), SEEKS);
        due("and is not shut out", x.day(ALL, 2), 0);
        due("sits to the end", x.does(ALL, 399, 1), SITS);
        due("who sits there", x.seat(ALL, 399, 0, 0), 1);
        due("it sat 150", x.sat(ALL, 1), 150);
        due("50 behind 199 to 248, 150 behind 250 to 399", x.day(ALL, 0), 200);
        CoatsOnChairs a = Check.laid("s0;r199,199,51,51,0,0,0;r199,199,199,1,0,0,0;w99;");
        a.hold(0, false);
        due("back a minute earlier: gone", a.does(ALL, 399, 0), GONE);
        due("back a minute earlier: shut out", a.day(ALL, 3), 1);
        CoatsOnChairs off = Check.laid("s0;r199,199,150,99,0,0,0;");
        due("off to the end", off.does(ALL, 399, 0), OFF);
        due("holds to the end", off.seat(ALL, 399, 0, 1), 0);
        due("held behind 348 to 399", off.day(ALL, 1), 52);
    }

    /** "AT MINUTE t (0 to 399) of a SEAT who SITS there (what = 0), who HOLDS it (1). NONE" */
    private static void whoSitsAndWhoHolds() {
        CoatsOnChairs x = Check.laid("s0;s0;r1,9,2,5,0,0,0;");
        int[][] want = {{0, NONE, NONE}, {1, 0, NONE}, {2, NONE, 0}, {6, NONE, 0}, {7, 0, NONE}, {12, 0, NONE}, {13, NONE, NONE},
            {14, NONE, NONE}, {399, NONE, NONE}};
        for (int[] w : want) {
            due("sits at " + w[0], x.seat(ALL, w[0], 0, 0), w[1]);
            due("holds at " + w[0], x.seat(ALL, w[0], 0, 1), w[2]);
            due("nobody ever sits there", x.seat(ALL, w[0], 1, 0), NONE);
            due("nobody ever holds it", x.seat(ALL, w[0], 1, 1), NONE);
        }
        CoatsOnChairs full = Check.laid("s0;".repeat(10) + "r0,9,2,5,0,0,0;".repeat(8));
        for (int s = 0; s < 10; s++) {
            due("all eight sit: " + s, full.seat(ALL, 0, s, 0), s < 8 ? s : NONE);
            due("all eight hold: " + s, full.seat(ALL, 1, s, 1), s < 8 ? s : NONE);
        }
    }

    /** "USED: MINUTES (over SEATS) with one who SITS behind it; EMPTY: those HELD." */
    private static void usedAndEmpty() {
        CoatsOnChairs least = Check.laid("s0;" + "r0,1,1,1,0,0,0;".repeat(8) + "w99;");
        due("behind its only minute nobody sits", least.day(ALL, 0), 0);
        due("nothing held", least.day(ALL, 1), 0);
        due("yet all sat", least.sat(ALL, 7), 1);
        CoatsOnChairs most = Check.laid("s0;".repeat(8) + "r0,199,199,1,0,0,0;".repeat(8));
        due("used by eight", most.day(ALL, 0), 8 * 198);
        CoatsOnChairs held = Check.laid("s0;".repeat(8) + "r0,2,1,99,0,0,0;".repeat(8));
        due("held by eight", held.day(ALL, 1), 8 * 99);
        due("behind each of two minutes nobody sits", held.day(ALL, 0), 0);
        due("held by nobody", held.day(NOBODY, 1), 0);
    }

    /** "SHUT OUT, THROWN OUT: how many, whom (bits)." */
    private static void shutOutAndThrownOut() {
        CoatsOnChairs x = Check.laid("s0;r0,199,199,1,0,0,0;" + "r1,1,1,1,0,0,0;".repeat(7) + "w0;");
        due("seven", x.day(ALL, 2), 7);
        due("all but the first", x.day(ALL, 3), 254);
        CoatsOnChairs y = Check.laid("s0;" + "r1,1,1,1,0,0,0;".repeat(7) + "r0,199,199,1,0,0,0;w0;");
        due("seven", y.day(ALL, 2), 7);
        due("all but the last", y.day(ALL, 3), 127);
        due("nobody thrown out", y.day(ALL, 4), 0);
        due("nobody thrown out", y.day(ALL, 5), 0);
        CoatsOnChairs z = Check.laid("s0;".repeat(10) + "r0,9,1,5,0,0,0;".repeat(8) + "l1;");
        due("eight thrown out", z.day(LAMPS, 4), 8);
        due("all", z.day(LAMPS, 5), 255);
        due("nobody shut out", z.day(LAMPS, 2), 0);
        due("nobody shut out", z.day(LAMPS, 3), 0);
        for (int i = 0; i < 8; i++) {
            z.hold(i, i == 7);
        }
        due("the last one alone", z.day(LAMPS, 5), 128);
        due("the last one alone", z.day(LAMPS, 4), 1);
    }

    /** "SAT: how many MINUTES a READER has sat." */
    private static void satAtLeastAndAtMost() {
        CoatsOnChairs x = Check.laid("s0;r0,199,50,99,0,0,0;r0,199,199,1,0,0,0;w0;");
        for (int rule = 0; rule < 5; rule++) {
            due("199 by " + rule, x.sat(rule, 0), 199);
            due("0 by " + rule, x.sat(rule, 1), 0);
        }
    }

    /** "no fewer USED, no more SHUT OUT, no more THROWN OUT, and one of these is better" */
    private static void betteredByOneOfThree() {
        due("all are alike", new CoatsOnChairs().bettered(), 0);
        // USED, SHUT OUT, THROWN OUT by each rule stand behind each room.
        // 7 1 0, 0 1 0, 7 1 0, 7 1 0, 7 1 0
        due("USED alone is better", Check.laid("s0;r3,1,1,3,0,0,0;r2,9,1,1,0,0,1;w0;").bettered(), 2);
        // 3 0 0, 3 1 0, 3 1 1, 3 1 1, 3 0 0
        due("SHUT OUT alone is better", Check.laid("s0;r3,4,4,7,0,1,2;r0,2,1,3,0,0,1;w2;c2,1;l2;").bettered(), 2 + 4 + 8);
        // 4 0 0, 4 0 0, 4 0 1, 4 0 0, 4 0 0
        due("THROWN OUT alone is better", Check.laid("s0;r0,1,2,6,0,1,0;r3,6,4,3,0,2,0;w5;c2,4;").bettered(), 4);
        // 4 1 0, 4 1 0, 4 1 0, 4 1 0, 6 1 1
        due("more USED, but more THROWN OUT", Check.laid("s0;r1,6,2,5,0,2,1;r2,7,1,4,0,2,2;w1;").bettered(), 0);
        // 7 2 0, 3 1 0, 7 2 0, 7 2 0, 7 2 0
        due("more USED, but more SHUT OUT", Check.laid("s0;r5,1,2,4,0,2,0;r7,1,3,6,0,1,2;r2,9,4,1,0,2,0;w1;").bettered(), 0);
        // 5 1 0, 4 1 0, 5 1 0, 5 1 0, 6 2 2
        due("fewer SHUT OUT and THROWN OUT, but a minute less USED",
            Check.laid("s0;r2,3,1,3,0,0,0;r3,5,3,3,0,2,0;r6,6,4,4,0,1,2;w1;").bettered(), 2);
        // 7 1 0, 10 0 0, 7 1 0, 7 1 0, 7 1 0
        due("all but NONE", Check.laid("s0;r2,5,2,1,0,1,0;r0,9,3,6,0,2,0;w2;").bettered(), 1 + 4 + 8 + 16);
        // 3 1 0, 2 1 0, 2 1 1, 2 1 1, 2 1 1
        due("all but ALL", Check.laid("s0;r0,5,1,5,0,1,1;r4,3,3,5,0,2,2;w0;c1,1;l1;").bettered(), 2 + 4 + 8 + 16);
        // 7 1 0, 7 1 0, 7 1 0, 14 0 2, 8 1 1
        due("none, though three differ", Check.laid("s0;r3,9,1,8,0,1,0;r1,9,2,6,0,0,0;w3;l2;").bettered(), 0);
    }

    /** A day is by the HOLDERS as they are, and so is what is bettered. */
    private static void betteredAsHoldersAre() {
        CoatsOnChairs x = Check.laid("s0;r0,5,1,5,0,1,1;r4,3,3,5,0,2,2;w0;c1,1;l1;");
        x.hold(1, false);
        due("who never goes off may hold or not", x.bettered(), 2 + 4 + 8 + 16);
        x.hold(0, false);
        due("nobody holds: all are alike", x.bettered(), 0);
        x.hold(0, true);
        due("and back", x.bettered(), 2 + 4 + 8 + 16);
    }

    /** "BAD: a number is none that is told (SEATS, READERS: such as there are; RULES 0 to 4)." */
    private static void wrongNumbers() {
        CoatsOnChairs x = Check.laid("s0;s0;r0,9,2,5,0,0,0;r0,9,2,5,0,0,0;r0,9,2,5,0,0,0;");
        for (int rule : new int[] {-1, 5, LOWEST, HIGHEST}) {
            due("seat by " + rule, x.seat(rule, 0, 0, 0), BAD);
            due("does by " + rule, x.does(rule, 0, 0), BAD);
            due("day by " + rule, x.day(rule, 0), BAD);
            due("sat by " + rule, x.sat(rule, 0), BAD);
        }
        for (int t : new int[] {-1, 400, LOWEST, HIGHEST}) {
            due("seat at " + t, x.seat(ALL, t, 0, 0), BAD);
            due("does at " + t, x.does(ALL, t, 0), BAD);
        }
        for (int s : new int[] {-1, 2, 9, 10, LOWEST, HIGHEST}) {
            due("seat " + s, x.seat(ALL, 0, s, 0), BAD);
        }
        for (int i : new int[] {-1, 3, 7, 8, LOWEST, HIGHEST}) {
            due("does " + i, x.does(ALL, 0, i), BAD);
            due("sat " + i, x.sat(ALL, i), BAD);
        }
        for (int what : new int[] {-1, 2, LOWEST, HIGHEST}) {
            due("seat, what " + what, x.seat(ALL, 0, 0, what), BAD);
        }
        for (int what : new int[] {-1, 6, LOWEST, HIGHEST}) {
            due("day, what " + what, x.day(ALL, what), BAD);
        }
        for (int rule = 0; rule < 5; rule++) {
            due("the last seat by " + rule, x.seat(rule, 0, 1, 0), 1);
            due("the last reader by " + rule, x.does(rule, 0, 2), SEEKS);
            due("the last minute by " + rule, x.does(rule, 399, 2), GONE);
        }
    }
}
