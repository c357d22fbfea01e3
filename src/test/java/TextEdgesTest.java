/** The edges that the document names for texts and rooms (promises 1 to 8), each sentence in a method of its own. */
public final class TextEdgesTest {
    private static final int BAD = -1, NO = -2, FULL = -3, NONE = -4;
    private static final int LOWEST = Integer.MIN_VALUE, HIGHEST = Integer.MAX_VALUE;
    private static final Check CHECK = new Check();
    private static final String READER = "r0,1,1,1,0,0,0;";
    // Each item with the limits of its numbers, two by two.
    private static final String LETTERS = "srclwv";
    private static final int[][] LIMITS =
        {{0, 3}, {0, 199, 1, 199, 1, 199, 1, 99, 0, 3, 0, 9, 0, 9}, {1, 99, 1, 99}, {1, 99}, {0, 99}, {0, 30}};

    public static void main(String[] args) {
        textIsEmptyAtFirst();
        laidAtFirst();
        fourHundredBytesAtMost();
        fourHundredBytesLaid();
        oneToEightBytes();
        lowestBytesHighestFirst();
        howLongItWas();
        oneToThreeFigures();
        partedByCommas();
        semicolonBehindTheLastOne();
        itemsOneBehindTheOther();
        leastAndGreatestNumbers();
        numbersAsTold();
        tenSeatsAtMost();
        eightReadersAtMost();
        cardsWithout();
        lampsWithout();
        goingRoundWithout();
        laterWithout();
        withoutWhateverWasLaidAhead();
        lastOneCounts();
        firstByteOfTheFirstItem();
        noFault();
        seatAndReaderAtLeast();
        textStaysWhenLaid();
        allAreHoldersNothingKept();
        whatOfAReader();
        readersAsThereAre();
        seatsAsThereAre();
        oneOrNoughtAsItWas();
        CHECK.end();
    }

    private static void due(String call, long got, long want) {
        CHECK.due(call, got, want);
    }

    private static void fault(String text, int want) {
        due("fault of '" + text + "'", Check.written(text).fault(), want);
    }

    /** Good items (W is 1) of so many bytes together, three at least. */
    private static String filler(int bytes) {
        StringBuilder text = new StringBuilder();
        int left = bytes;
        while (left >= 8) {
            text.append("w001;");
            left -= 5;
        }
        return text.append(new String[] {"w1;", "w01;", "w001;", "w1;w1;", "w1;w01;"}[left - 3]).toString();
    }

    /** An item whose numbers are as small as may be, but for one. */
    private static String item(int form, int which, String number) {
        StringBuilder text = new StringBuilder().append(LETTERS.charAt(form));
        int many = LIMITS[form].length / 2;
        for (int k = 0; k < many; k++) {
            text.append(k == which ? number : "" + LIMITS[form][2 * k]).append(k + 1 < many ? ',' : ';');
        }
        return text.toString();
    }

    /** "THE TEXT is empty." */
    private static void textIsEmptyAtFirst() {
        due("bytes at first", new CoatsOnChairs().count(2), 0);
        due("wiped at first", new CoatsOnChairs().wipe(), 0);
        due("fault at first", new CoatsOnChairs().fault(), NONE);
        due("laid at first", new CoatsOnChairs().lay(), NO);
    }

    /** "at first s0;r0,60,30,10,0,5,5;" */
    private static void laidAtFirst() {
        CoatsOnChairs x = new CoatsOnChairs();
        int[] told = {0, 60, 30, 10, 0, 5, 5, 1};
        for (int what = 0; what < told.length; what++) {
            due("at first reader 0 " + what, x.reader(0, what), told[what]);
        }
        due("at first no reader 1", x.reader(1, 0), BAD);
        due("at first kind 0", x.kind(0), 0);
        due("at first no seat 1", x.kind(1), BAD);
        int[] counts = {1, 1, 0, 1, 0};
        for (int what = 0; what < counts.length; what++) {
            due("at first count " + what, x.count(what), counts[what]);
        }
        for (int rule = 0; rule < 5; rule++) {
            // It sits behind minutes 0 to 28 and 39 to 67, and holds behind 29 to 38.
            due("at first used by " + rule, x.day(rule, 0), 58);
            due("at first empty by " + rule, x.day(rule, 1), rule == 1 ? 0 : 10);
            due("at first sat by " + rule, x.sat(rule, 0), 60);
        }
    }

    /** "A TEXT is bytes (400 at most)"; "FULL." */
    private static void fourHundredBytesAtMost() {
        for (int n = 1; n <= 8; n++) {
            CoatsOnChairs x = Check.written(filler(400 - n));
            due("ahead of it", x.count(2), 400 - n);
            for (int more = n + 1; more <= 8; more++) {
                due(more + " do not fit where " + n + " do", x.write(more, 0x3b3b3b3b3b3b3b3bL), FULL);
            }
            due("none of them came", x.count(2), 400 - n);
            due("no byte is another", x.fault(), NONE);
            due(n + " fit", x.write(n, 0x7777777777777777L), 400);
            due("the bytes of the refused ones are not there", x.fault(), 400 - n);
            for (int more = 1; more <= 8; more++) {
                due("full: " + more, x.write(more, 's'), FULL);
            }
            due("400 stay", x.count(2), 400);
            due("wiped", x.wipe(), 400);
            due("room again", x.write(8, 0), 8);
        }
    }

    /** A TEXT of 400 bytes is one, too, and one of 399 with a byte that makes it good. */
    private static void fourHundredBytesLaid() {
        String text = "s3;" + filler(382) + "r7,1,1,1,0,0,5;";
        due("it has 400", text.length(), 400);
        CoatsOnChairs x = Check.written(text.substring(0, 399));
        due("399: the reader has no end", x.fault(), 385);
        due("399: not laid", x.lay(), NO);
        due("its end", x.write(1, ';'), 400);
        due("400: no fault", x.fault(), NONE);
        due("400: laid", x.lay(), 1);
        due("400: its last number", x.reader(0, 6), 5);
        due("400: its first seat", x.kind(0), 3);
        fault(filler(399) + "x", 399);
        fault(filler(400), NONE);
    }

    /** "The lowest n bytes (1 to 8)"; "BAD". */
    private static void oneToEightBytes() {
        CoatsOnChairs x = new CoatsOnChairs();
        int length = 0;
        for (int n = 1; n <= 8; n++) {
            length += n;
            due("write " + n, x.write(n, 0), length);
        }
        for (int n : new int[] {0, 9, -1, -8, 16, 64, LOWEST, HIGHEST}) {
            due("write " + n, x.write(n, 0), BAD);
        }
        due("nothing came", x.count(2), length);
    }

    /** "The lowest n bytes of v, the highest of these first, come behind THE TEXT" */
    private static void lowestBytesHighestFirst() {
        String text = "w1;w12;s";
        for (int n = 1; n <= 8; n++) {
            CoatsOnChairs x = Check.written(filler(3));
            // All bytes above the lowest n are 'x', an item that is none.
            long v = 0;
            for (int k = 0; k < 8; k++) {
                v = v << 8 | (k < 8 - n ? 'x' : text.charAt(k - 8 + n));
            }
            x.write(n, v);
            boolean ends = n == 3 || n == 7;
            due("of v the lowest " + n, x.fault(), ends ? NONE : n < 3 ? 3 : n < 7 ? 6 : 10);
        }
        CoatsOnChairs y = new CoatsOnChairs();
        due("the highest byte is below 0", y.write(8, 0xf3303b73303b7330L), 8);
        due("and is no letter", y.fault(), 0);
        for (int sign = 0; sign < 256; sign++) {
            CoatsOnChairs one = new CoatsOnChairs();
            one.write(3, (long) sign << 16 | '1' << 8 | ';');
            due("letter " + sign, one.fault(), "slwv".indexOf(sign) >= 0 ? NONE : 0);
            CoatsOnChairs two = new CoatsOnChairs();
            two.write(3, 's' << 16 | (long) sign << 8 | ';');
            due("figure " + sign, two.fault(), sign >= '0' && sign <= '3' ? NONE : 0);
            CoatsOnChairs three = new CoatsOnChairs();
            three.write(3, 's' << 16 | '1' << 8 | sign);
            due("end " + sign, three.fault(), sign == ';' ? NONE : 0);
        }
    }

    /** "THE TEXT is empty: how long it was." */
    private static void howLongItWas() {
        for (int bytes : new int[] {0, 3, 8, 399, 400}) {
            CoatsOnChairs x = Check.written(bytes == 0 ? "" : filler(bytes));
            due("wiped " + bytes, x.wipe(), bytes);
            due("empty", x.count(2), 0);
            due("wiped again", x.wipe(), 0);
            due("nothing of it is left", x.fault(), NONE);
            due("the next byte is the first", x.write(1, 'x'), 1);
            due("its place is 0", x.fault(), 0);
        }
    }

    /** "numbers (one to three figures)" */
    private static void oneToThreeFigures() {
        for (int form = 0; form < LETTERS.length(); form++) {
            for (int k = 0; k < LIMITS[form].length / 2; k++) {
                fault("w1;" + item(form, k, ""), 3);
                fault("w1;" + item(form, k, "1"), NONE);
                fault("w1;" + item(form, k, "01"), NONE);
                fault("w1;" + item(form, k, "001"), NONE);
                fault("w1;" + item(form, k, "0001"), 3);
                fault("w1;" + item(form, k, "0000000000000000001"), 3);
                fault("w1;" + item(form, k, "-1"), 3);
                fault("w1;" + item(form, k, "+1"), 3);
                fault("w1;" + item(form, k, " 1"), 3);
                fault("w1;" + item(form, k, "1 "), 3);
            }
        }
        due("leading noughts count for nothing", Check.laid("s0;r010,020,030,040,002,008,007;").reader(0, 0), 10);
    }

    /** "parted by ,": neither more numbers nor fewer than the item has. */
    private static void partedByCommas() {
        for (int form = 0; form < LETTERS.length(); form++) {
            String good = item(form, -1, "");
            String bare = good.substring(0, good.length() - 1);
            fault(good, NONE);
            fault(bare + ",1;", 0);
            fault(bare + ",;", 0);
            fault(good.charAt(0) + "," + good.substring(1), 0);
            for (int at = good.indexOf(','); at >= 0; at = good.indexOf(',', at + 1)) {
                fault(good.substring(0, at) + ";" + good.substring(at + 1), 0);
                fault(good.substring(0, at) + "." + good.substring(at + 1), 0);
                fault(good.substring(0, at) + ",," + good.substring(at + 1), 0);
                fault(good.substring(0, at) + ";", 0);
            }
        }
    }

    /** "and ; (behind the last one, too)" */
    private static void semicolonBehindTheLastOne() {
        for (int form = 0; form < LETTERS.length(); form++) {
            String good = item(form, -1, "");
            for (int length = 1; length < good.length(); length++) {
                fault(good.substring(0, length), 0);
                fault("s1;" + good.substring(0, length), 3);
            }
            String bare = good.substring(0, good.length() - 1);
            fault(bare + "s1;", 0);
            fault(bare + ",", 0);
            fault(bare + ":", 0);
            fault(good + ";", good.length());
        }
    }

    /** "ITEMS one behind the other" */
    private static void itemsOneBehindTheOther() {
        String all = "s0;" + READER + "c1,1;l1;w0;v0;";
        fault(all, NONE);
        fault("v0;w0;l1;c1,1;" + READER + "s0;", NONE);
        for (String between : new String[] {" ", "\n", ",", ";", "\u0000", "0"}) {
            fault("s0;" + between + "s0;", 3);
            fault(between + "s0;", 0);
            fault("s0;" + between, 3);
        }
        due("seats and readers as they come", Check.laid("r1,1,1,1,0,0,0;s1;r2,1,1,1,0,0,0;s2;").reader(1, 0), 2);
        due("seats and readers as they come", Check.laid("r1,1,1,1,0,0,0;s1;r2,1,1,1,0,0,0;s2;").kind(1), 2);
    }

    /** "(0 to 199)", "(1 to 199)", .. : the least and the greatest number of each item, and those beyond. */
    private static void leastAndGreatestNumbers() {
        for (int form = 0; form < LETTERS.length(); form++) {
            for (int k = 0; k < LIMITS[form].length / 2; k++) {
                for (int number = 0; number <= 999; number++) {
                    boolean told = number >= LIMITS[form][2 * k] && number <= LIMITS[form][2 * k + 1];
                    fault("w1;" + item(form, k, "" + number), told ? NONE : 3);
                }
            }
        }
    }

    /** The least and the greatest numbers are those that are laid. */
    private static void numbersAsTold() {
        CoatsOnChairs x = Check.laid("s0;s3;r0,1,1,1,0,0,0;r199,199,199,99,3,9,9;");
        int[] least = {0, 1, 1, 1, 0, 0, 0}, greatest = {199, 199, 199, 99, 3, 9, 9};
        for (int what = 0; what < 7; what++) {
            due("the least " + what, x.reader(0, what), least[what]);
            due("the greatest " + what, x.reader(1, what), greatest[what]);
        }
        due("the least kind", x.kind(0), 0);
        due("the greatest kind", x.kind(1), 3);
    }

    /** "a SEAT ..; 10 at most, 0, 1, .." */
    private static void tenSeatsAtMost() {
        String ten = "s0;s1;s2;s3;s0;s1;s2;s3;s0;s3;";
        fault(ten, NONE);
        fault(ten + "s0;", 30);
        fault(ten + READER + "s0;", 45);
        fault(ten + READER + "w1;s0;s0;", 48);
        CoatsOnChairs x = Check.laid(ten + READER);
        due("ten seats", x.count(0), 10);
        for (int s = 0; s < 10; s++) {
            due("kind of " + s, x.kind(s), s == 9 ? 3 : s % 4);
        }
        due("no eleventh", x.kind(10), BAD);
        due("the last one is free", x.seat(0, 0, 9, 0), NONE);
        due("no eleventh", x.seat(0, 0, 10, 0), BAD);
        due("eleven are not laid", Check.written(ten + READER + "s0;").lay(), NO);
        CoatsOnChairs full = Check.laid("s0;".repeat(9) + "s1;" + "r0,9,9,1,1,0,0;" + "r0,9,9,1,0,0,0;".repeat(7));
        due("the tenth is liked", full.seat(0, 0, 9, 0), 0);
        due("the eighth reader", full.seat(0, 0, 6, 0), 7);
        due("the eighth seat is free", full.seat(0, 0, 7, 0), NONE);
    }

    /** "a READER ..; 8 at most, 0, 1, .." */
    private static void eightReadersAtMost() {
        StringBuilder text = new StringBuilder("s0;");
        for (int i = 0; i < 8; i++) {
            text.append('r').append(i + 1).append(",1,1,1,0,0,").append(i).append(';');
        }
        String eight = text.toString();
        fault(eight, NONE);
        fault(eight + READER, 123);
        fault(eight + "s1;" + READER + READER, 126);
        CoatsOnChairs x = Check.written(eight);
        due("eight are laid", x.lay(), 8);
        for (int i = 0; i < 8; i++) {
            due("A of " + i, x.reader(i, 0), i + 1);
            due("B of " + i, x.reader(i, 6), i);
        }
        due("no ninth", x.reader(8, 0), BAD);
        due("nine are not laid", Check.written(eight + READER).lay(), NO);
        due("ten seats beside eight readers", Check.laid(eight + "s0;".repeat(9)).count(0), 10);
    }

    /** The minute in which reader 1 sits down on seat 0. */
    private static int takenAt(String text, int rule) {
        CoatsOnChairs x = Check.laid(text);
        for (int t = 0; t < 400; t++) {
            if (x.seat(rule, t, 0, 0) == 1) {
                return t;
            }
        }
        return NONE;
    }

    /** "(30, 20 without": only C = 30 and R = 20 free what is held from 10 on at 40 and from 11 on at 60. */
    private static void cardsWithout() {
        String from10 = "s0;r0,90,11,90,0,5,5;r1,5,5,1,0,0,0;w99;";
        String from11 = "s0;r0,90,12,90,0,5,5;r1,5,5,1,0,0,0;w99;";
        due("held for 30 at 40", takenAt(from10, 2), 40);
        due("held for 29 at 40", takenAt(from11, 2), 60);
        due("c31", takenAt(from10 + "c31,20;", 2), 60);
        due("c29", takenAt(from11 + "c29,20;", 2), 40);
        due("r10", takenAt(from11 + "c30,10;", 2), 50);
        due("r40", takenAt(from11 + "c30,40;", 2), 80);
    }

    /** "(1 to 99; 15 without": what is held from 0 on is free at 15. */
    private static void lampsWithout() {
        String room = "s0;r0,90,1,90,0,5,5;r1,5,5,1,0,0,0;w99;";
        due("without", takenAt(room, 3), 15);
        due("l14", takenAt(room + "l14;", 3), 14);
        due("l16", takenAt(room + "l16;", 3), 16);
    }

    /** "(0 to 99; 20 without": who comes at 3 and finds no seat seeks at 22 still, and is gone at 23. */
    private static void goingRoundWithout() {
        CoatsOnChairs x = Check.laid("s0;r0,90,90,1,0,5,5;r3,5,5,1,0,0,0;");
        due("seeks", x.does(0, 22, 1), 1);
        due("gone", x.does(0, 23, 1), 4);
        due("w19", Check.laid("s0;r0,90,90,1,0,5,5;r3,5,5,1,0,0,0;w19;").does(0, 22, 1), 4);
        due("w21", Check.laid("s0;r0,90,90,1,0,5,5;r3,5,5,1,0,0,0;w21;").does(0, 23, 1), 1);
    }

    /** "(0 to 30; 0 without": nobody comes later on any day. */
    private static void laterWithout() {
        String two = "s0;" + READER + READER + "w0;";
        CoatsOnChairs without = Check.laid(two), nought = Check.laid(two + "v0;"), one = Check.laid(two + "v1;");
        int apart = 0;
        for (int z = 0; z < 100; z++) {
            due("without, by " + z, without.drawn(z, 0), 1);
            due("v0, by " + z, nought.drawn(z, 0), 1);
            apart += one.drawn(z, 0) == 0 ? 1 : 0;
        }
        due("v1: on some days they come apart", apart > 0 && apart < 100 ? 1 : 0, 1);
    }

    /** "without": of a text that does not tell it, whatever the texts laid ahead of it told. */
    private static void withoutWhateverWasLaidAhead() {
        String two = "s0;" + READER + READER + "w0;";
        String[] plain = {"s0;r0,90,11,90,0,5,5;r1,5,5,1,0,0,0;w99;", "s0;r0,90,90,1,0,5,5;r3,5,5,1,0,0,0;", two};
        for (int times = 1; times <= 3; times++) {
            for (int which = 0; which < plain.length; which++) {
                CoatsOnChairs x = Check.written("c1,1;l1;w1;v30;s3;s3;s3;" + READER.repeat(5));
                for (int k = 0; k < times; k++) {
                    x.lay();
                }
                x.wipe();
                Check.put(x, plain[which]);
                x.lay();
                due("one seat", x.count(0), 1);
                due("two readers", x.count(1), 2);
                if (which == 0) {
                    due("C and R: held at 39", x.seat(2, 39, 0, 1), 0);
                    due("C and R: free at 40", x.seat(2, 40, 0, 0), 1);
                    due("L: held at 24", x.seat(3, 24, 0, 1), 0);
                    due("L: free at 25", x.seat(3, 25, 0, 0), 1);
                } else if (which == 1) {
                    due("W: seeks", x.does(0, 22, 1), 1);
                    due("W: gone", x.does(0, 23, 1), 4);
                } else {
                    due("V: nobody comes later", x.drawn(0, 0), 1);
                }
            }
        }
    }

    /** "of several such the last one counts": of cards, lamps, going round and later. */
    private static void lastOneCounts() {
        String room = "s0;r0,90,11,90,0,5,5;r1,5,5,1,0,0,0;w99;";
        due("the last c", takenAt("c1,1;c2,2;" + room + "c31,20;", 2), 60);
        due("the last c, as without", takenAt("c1,1;" + room + "c30,20;", 2), 40);
        due("the last c, not the first", takenAt("c31,20;" + room + "c1,1;", 2), 11);
        due("the last l", takenAt("l1;l2;" + room + "l30;", 3), 40);
        due("the last l, as without", takenAt("l1;" + room + "l15;", 3), 25);
        due("the last l, not the first", takenAt("l30;" + room + "l1;", 3), 11);
        due("the last w", Check.laid(room + "w98;w3;").does(0, 4, 1), 4);
        due("the last w, not the first", Check.laid("w3;" + room).does(0, 99, 1), 1);
        due("the last w, as without", Check.laid(room + "w3;w20;").does(0, 20, 1), 1);
        due("the last w, as without", Check.laid(room + "w3;w20;").does(0, 21, 1), 4);
        String two = "s0;" + READER + READER + "w0;";
        // By z = 0 the draws are 1 and 41487: modulo 2 they are 1 and 1, modulo 31 they are 1 and 9.
        due("the last v", Check.laid("v30;" + two + "v1;").drawn(0, 0), 1);
        due("the last v, not the first", Check.laid("v1;" + two + "v30;").drawn(0, 0), 0);
        due("the last v, as without", Check.laid("v30;" + two + "v0;").drawn(0, 0), 1);
        fault("c0,1;c1,1;", 0);
        fault("w1;l100;l1;", 3);
    }

    /** "FAULT: the place (from 0 on) of the first byte of the first ITEM that is not so." */
    private static void firstByteOfTheFirstItem() {
        fault("x", 0);
        fault("s4;", 0);
        fault("s0;s4;s5;x", 3);
        fault("r0,1,1,1,0,0,10;s4;", 0);
        fault("s1;r0,1,1,1,0,0,10;s4;", 3);
        fault("s1;r0,1,1,1,0,0,0", 3);
        fault("w1;w1;w1;w100", 9);
        fault(filler(100) + "c99,100;", 100);
        fault(filler(398) + "s0", 398);
        fault(filler(399) + ";", 399);
    }

    /** "FAULT. NONE.": a text without one, be it empty or not fit to be laid. */
    private static void noFault() {
        fault("", NONE);
        fault("s0;", NONE);
        fault(READER, NONE);
        fault("w0;", NONE);
        CoatsOnChairs x = Check.written("s4;");
        due("fault", x.fault(), 0);
        due("fault again", x.fault(), 0);
        x.wipe();
        due("no fault when wiped", x.fault(), NONE);
    }

    /** "LAID is a TEXT without FAULT, of a SEAT and a READER at least (NO else" */
    private static void seatAndReaderAtLeast() {
        due("empty", Check.written("").lay(), NO);
        due("a seat", Check.written("s0;").lay(), NO);
        due("a reader", Check.written(READER).lay(), NO);
        due("ten seats", Check.written("s0;".repeat(10)).lay(), NO);
        due("eight readers", Check.written(READER.repeat(8)).lay(), NO);
        due("neither", Check.written("c1,1;l1;w1;v1;").lay(), NO);
        due("a seat and a reader", Check.written("s0;" + READER).lay(), 1);
        due("a reader and a seat", Check.written(READER + "s0;").lay(), 1);
        due("a fault behind them", Check.written("s0;" + READER + "x").lay(), NO);
        due("a fault ahead of them", Check.written(";s0;" + READER).lay(), NO);
        CoatsOnChairs x = Check.laid("s2;r5,6,7,8,1,2,3;");
        x.wipe();
        Check.put(x, "s1;s1;");
        due("a refused one", x.lay(), NO);
        due("leaves the seats", x.count(0), 1);
        due("leaves the kind", x.kind(0), 2);
        due("leaves the reader", x.reader(0, 3), 8);
    }

    /** "LAID: how many READERS; ..; THE TEXT stays." */
    private static void textStaysWhenLaid() {
        CoatsOnChairs x = Check.written("s0;" + READER);
        due("laid", x.lay(), 1);
        due("it stays", x.count(2), 18);
        due("laid again", x.lay(), 1);
        Check.put(x, "r3,1,1,1,0,0,0;");
        due("not laid yet", x.count(1), 1);
        due("laid with what came behind", x.lay(), 2);
        due("it stays", x.wipe(), 33);
        due("what is laid stays without it", x.count(1), 2);
        due("nothing to lay", x.lay(), NO);
    }

    /** "all are HOLDERS, nothing KEPT" */
    private static void allAreHoldersNothingKept() {
        CoatsOnChairs x = Check.laid("s0;" + READER.repeat(8));
        due("all hold", x.count(3), 8);
        for (int i = 0; i < 8; i++) {
            x.hold(i, false);
        }
        due("none holds", x.count(3), 0);
        x.keep();
        x.keep();
        due("laid again", x.lay(), 8);
        due("all hold", x.count(3), 8);
        due("nothing kept", x.count(4), 0);
        due("nothing to go back to", x.back(), NO);
        for (int i = 0; i < 8; i++) {
            due("a holder: " + i, x.reader(i, 7), 1);
        }
        x.hold(0, false);
        x.keep();
        Check.put(x, "x");
        due("a refused one", x.lay(), NO);
        due("leaves the holders", x.count(3), 7);
        due("leaves what is kept", x.count(4), 1);
    }

    /** "Of a READER: A (what = 0) .. B (6), 1 if it is a HOLDER (7). BAD." */
    private static void whatOfAReader() {
        CoatsOnChairs x = Check.laid("s0;r11,12,13,14,1,6,7;");
        int[] told = {11, 12, 13, 14, 1, 6, 7, 1};
        for (int what = 0; what < 8; what++) {
            due("what " + what, x.reader(0, what), told[what]);
        }
        x.hold(0, false);
        due("no holder", x.reader(0, 7), 0);
        for (int what : new int[] {-1, 8, LOWEST, HIGHEST}) {
            due("what " + what, x.reader(0, what), BAD);
        }
    }

    /** "READERS: such as there are" */
    private static void readersAsThereAre() {
        for (int many = 1; many <= 8; many++) {
            CoatsOnChairs x = Check.laid("s0;" + READER.repeat(many));
            for (int i = -1; i <= 9; i++) {
                boolean there = i >= 0 && i < many;
                due(i + " of " + many, x.reader(i, 1), there ? 1 : BAD);
                due(i + " of " + many + " holds", x.hold(i, true), there ? 1 : BAD);
            }
        }
        CoatsOnChairs x = Check.laid("s0;" + READER.repeat(3));
        x.wipe();
        Check.put(x, "s0;" + READER.repeat(2));
        due("still three", x.reader(2, 0), 0);
        x.lay();
        due("two now", x.reader(2, 0), BAD);
        due("two now", x.hold(2, false), BAD);
        due("the lowest number", x.reader(LOWEST, 0), BAD);
        due("the highest number", x.reader(HIGHEST, 0), BAD);
        due("the lowest number", x.hold(LOWEST, false), BAD);
        due("the highest number", x.hold(HIGHEST, false), BAD);
        due("32 is not 0", x.hold(32, false), BAD);
        due("both hold", x.count(3), 2);
    }

    /** "SEATS: such as there are" */
    private static void seatsAsThereAre() {
        for (int many = 1; many <= 10; many++) {
            CoatsOnChairs x = Check.laid("s2;".repeat(many) + READER);
            for (int s = -1; s <= 11; s++) {
                due(s + " of " + many, x.kind(s), s >= 0 && s < many ? 2 : BAD);
            }
            due("the lowest number", x.kind(LOWEST), BAD);
            due("the highest number", x.kind(HIGHEST), BAD);
        }
        CoatsOnChairs x = Check.laid("s0;s1;" + READER);
        x.wipe();
        Check.put(x, "s0;" + READER);
        due("still two", x.kind(1), 1);
        x.lay();
        due("one now", x.kind(1), BAD);
    }

    /** "A READER holds, or does not: 1, 0 as it was." */
    private static void oneOrNoughtAsItWas() {
        CoatsOnChairs x = Check.laid("s0;" + READER.repeat(8));
        for (int i = 0; i < 8; i++) {
            due("held at first: " + i, x.hold(i, false), 1);
            due("no more: " + i, x.reader(i, 7), 0);
            due("did not hold: " + i, x.hold(i, false), 0);
            due("fewer hold", x.count(3), 7 - i);
        }
        for (int i = 7; i >= 0; i--) {
            due("did not hold: " + i, x.hold(i, true), 0);
            due("holds again: " + i, x.reader(i, 7), 1);
            due("held: " + i, x.hold(i, true), 1);
            due("more hold", x.count(3), 8 - i);
        }
    }
}
