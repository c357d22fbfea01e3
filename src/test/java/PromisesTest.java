/** Each promise by itself: ordinary inputs, edges, wrong inputs; what is due was worked out by hand. */
public final class PromisesTest {
    private static final int BAD = -1, NO = -2, FULL = -3, NONE = -4;
    private static final int LOWEST = Integer.MIN_VALUE, HIGHEST = Integer.MAX_VALUE;
    private static final Check CHECK = new Check();
    // Reader 0 sits in 0 and 1, is off from 1 to 21; reader 1 comes at 2 and wants five minutes.
    private static final String LUNCH = "s0;r0,10,2,20,0,9,0;r2,5,5,1,0,0,8;";
    // Whoever is late by a minute finds the seat taken, but for reader 0 who holds it.
    private static final String GAME = "s0;r0,4,2,2,0,0,0;r2,9,9,1,0,0,0;w0;";

    public static void main(String[] args) {
        newObject();
        write();
        wipe();
        faultOfItems();
        faultOfLimits();
        lay();
        readerAndKind();
        hold();
        seatByLiking();
        seatAndDoes();
        goingRound();
        cards();
        lamps();
        daring();
        comingBack();
        dayAndSat();
        bettered();
        rest();
        rests();
        rounds();
        often();
        porterAndCard();
        booked();
        over();
        dare();
        drawnAndTen();
        keepAndBack();
        count();
        badComesFirst();
        CHECK.end();
    }

    private static void due(String call, long got, long want) {
        CHECK.due(call, got, want);
    }

    private static void newObject() {
        CoatsOnChairs x = new CoatsOnChairs();
        int[] told = {0, 60, 30, 10, 0, 5, 5, 1};
        for (int what = 0; what < 8; what++) {
            due("new: reader 0 " + what, x.reader(0, what), told[what]);
        }
        due("new: kind", x.kind(0), 0);
        int[] counts = {1, 1, 0, 1, 0};
        for (int what = 0; what < 5; what++) {
            due("new: count " + what, x.count(what), counts[what]);
        }
        due("new: fault", x.fault(), NONE);
        due("new: lay", x.lay(), NO);
        due("new: back", x.back(), NO);
        due("new: wipe", x.wipe(), 0);
        due("new: porter, never shut out", x.porter(0), 99);
        due("new: drawn", x.drawn(1, 0), 0);
        // The numbers of the rules that a text does not tell are 30, 20, 15, 20, 0.
        CoatsOnChairs y = Check.laid("s0;r0,90,1,90,0,5,5;r1,5,5,1,0,0,0;w99;");
        due("no c: freed at", takenAt(y, 2), 40);
        due("no l: freed at", takenAt(y, 3), 15);
        due("no c: held for 30 is enough", takenAt(Check.laid("s0;r0,90,11,90,0,5,5;r1,5,5,1,0,0,0;w99;"), 2), 40);
        CoatsOnChairs z = Check.laid("s0;r0,90,90,1,0,5,5;r3,5,5,1,0,0,0;");
        due("no w: seeks", z.does(0, 22, 1), 1);
        due("no w: gone", z.does(0, 23, 1), 4);
    }

    /** The minute in which reader 1 sits down on seat 0. */
    private static int takenAt(CoatsOnChairs x, int rule) {
        for (int t = 0; t < 400; t++) {
            if (x.seat(rule, t, 0, 0) == 1) {
                return t;
            }
        }
        return NONE;
    }

    private static void write() {
        CoatsOnChairs x = new CoatsOnChairs();
        for (int n : new int[] {0, 9, -1, LOWEST, HIGHEST}) {
            due("write " + n, x.write(n, 0x73303b), BAD);
        }
        due("nothing written", x.count(2), 0);
        due("higher bytes are left", x.write(1, 0x1234567890abcd73L), 1);
        due("behind it", x.write(2, 0x7777777777772333L), 3);
        due("# is no figure", x.fault(), 0);
        x.wipe();
        due("three, highest first", x.write(3, 0x73333b), 3);
        due("s3;", x.fault(), NONE);
        due("eight", x.write(8, 0x72302c312c312c31L), 11);
        due("eight more", x.write(8, 0x2c302c302c303b80L), 19);
        due("a byte above 127", x.fault(), 18);
        x.wipe();
        for (int k = 1; k <= 49; k++) {
            due("write to " + 8 * k, x.write(8, -1), 8 * k);
        }
        due("four more", x.write(4, 0), 396);
        due("five are too many", x.write(5, 0), FULL);
        due("eight are too many", x.write(8, 0), FULL);
        due("as long as before", x.count(2), 396);
        due("four fit", x.write(4, 0), 400);
        due("one is too many", x.write(1, 0), FULL);
        due("BAD ahead of FULL", x.write(9, 0), BAD);
        due("BAD ahead of FULL", x.write(0, 0), BAD);
        due("wipe", x.wipe(), 400);
        due("write again", x.write(1, 's'), 1);
    }

    private static void wipe() {
        CoatsOnChairs x = Check.laid("s1;s2;r5,6,7,8,3,1,2;");
        due("wipe", x.wipe(), 21);
        due("wipe again", x.wipe(), 0);
        due("empty", x.count(2), 0);
        due("laid stays", x.count(0), 2);
        due("no fault", x.fault(), NONE);
        due("nothing to lay", x.lay(), NO);
        due("laid stays", x.kind(1), 2);
    }

    private static void fault(String text, int want) {
        due("fault of '" + text + "'", Check.written(text).fault(), want);
    }

    private static void faultOfItems() {
        for (String good : new String[] {"", "s0;", "s000;", "s03;", "s003;", "r0,1,1,1,0,0,0;", "c1,1;", "l1;", "w0;", "v0;",
            "w1;w2;s0;v3;v4;c1,2;c3,4;l5;l6;", "r000,001,001,001,000,000,000;"}) {
            fault(good, NONE);
        }
        for (String wrong : new String[] {"s", "s;", "s0", "s0000;", "s0003;", "s0,1;", "s0,;", "s,0;", "s-1;", "s+1;", "s 1;", "s1 ;",
            "S0;", " s0;", ";", ",", "0;", "x0;", "\u0000", "\u00f30;", "s0:", "s/;", "s:;", "r0,1,1,1,0,0;", "r0,1,1,1,0,0,0,0;",
            "r0;1,1,1,0,0,0;", "r0,1,1,1,0,0,0", "r0,1,1,1,0,0,0,", "r0,1,,1,0,0,0;", "c1;", "c1,1,1;", "c;", "l;", "l1,1;", "w;", "w1,1;",
            "v;", "v1,1;", "ss0;", "s0s0;"}) {
            fault(wrong, 0);
            fault("s0;" + wrong, 3);
            fault("l15;r0,1,1,1,0,0,0;" + wrong + "s9;", 19);
        }
        fault("s0;;", 3);
        fault("s0;s1;s4;s5;", 6);
    }

    private static void faultOfLimits() {
        int[] least = {0, 1, 1, 1, 0, 0, 0};
        int[] most = {199, 199, 199, 99, 3, 9, 9};
        for (int k = 0; k < 7; k++) {
            fault(readerItem(k, least[k]), NONE);
            fault(readerItem(k, most[k]), NONE);
            fault("w1;" + readerItem(k, most[k] + 1), 3);
            fault("w1;" + readerItem(k, 999), 3);
            if (least[k] == 1) {
                fault("w1;" + readerItem(k, 0), 3);
            }
        }
        for (String good : new String[] {"s3;", "c99,99;", "l99;", "w99;", "v30;", "c1,99;", "c99,1;"}) {
            fault(good, NONE);
        }
        for (String wrong : new String[] {"s4;", "c0,1;", "c1,0;", "c100,1;", "c1,100;", "l0;", "l100;", "w100;", "v31;", "v100;", "s10;"}) {
            fault(wrong, 0);
        }
        fault("s0;".repeat(10), NONE);
        fault("s0;".repeat(11), 30);
        fault("s0;".repeat(10) + "w1;s0;x", 33);
        String one = "r0,1,1,1,0,0,0;";
        fault(one.repeat(8), NONE);
        fault(one.repeat(9), 120);
        fault(one.repeat(8) + "s0;" + one, 123);
        fault("w1;".repeat(133), NONE);
        fault("w1;".repeat(133) + "w", 399);
        fault("w001;".repeat(80), NONE);
    }

    private static String readerItem(int which, int number) {
        StringBuilder text = new StringBuilder("r");
        for (int k = 0; k < 7; k++) {
            text.append(k == which ? number : 1).append(k < 6 ? ',' : ';');
        }
        return text.toString();
    }

    private static void lay() {
        CoatsOnChairs x = Check.written("s2;s3;");
        due("no reader", x.lay(), NO);
        due("as before", x.count(0), 1);
        Check.put(x, "r7,8,9,10,1,2,3;");
        due("lay", x.lay(), 1);
        due("seats", x.count(0), 2);
        due("the text stays", x.count(2), 22);
        due("hold", x.hold(0, false), 1);
        due("keep", x.keep(), 1);
        Check.put(x, "x");
        due("fault", x.fault(), 22);
        due("not laid", x.lay(), NO);
        due("kept stays", x.count(4), 1);
        due("holders stay", x.count(3), 0);
        due("seats stay", x.count(0), 2);
        due("reader stays", x.reader(0, 3), 10);
        x.wipe();
        Check.put(x, "r0,1,1,1,0,0,0;");
        due("no seat", x.lay(), NO);
        Check.put(x, "r3,1,1,1,0,0,0;s1;");
        due("lay two", x.lay(), 2);
        due("nothing kept", x.count(4), 0);
        due("back", x.back(), NO);
        due("all hold", x.count(3), 2);
        due("one seat", x.count(0), 1);
        due("the second", x.reader(1, 0), 3);
        due("lay again", x.lay(), 2);
        lastOfSeveral();
        rulesAnew();
    }

    private static void lastOfSeveral() {
        CoatsOnChairs x = Check.laid("w9;c9,9;l9;" + LUNCH + "w50;c4,3;l4;w50;");
        due("last w and c", x.does(2, 6, 1), 2);
        due("last w and c", x.does(2, 5, 1), 1);
        due("last l", x.does(3, 5, 1), 2);
        due("last l", x.does(3, 4, 1), 1);
        due("last v", Check.laid("v30;s0;r0,1,1,1,0,0,0;r0,1,1,1,0,0,0;w0;v0;").drawn(0, 0), 1);
        due("last v", Check.laid("v0;s0;r0,1,1,1,0,0,0;r0,1,1,1,0,0,0;w0;v30;").drawn(0, 0), 0);
    }

    /** What an earlier text told is forgotten by the next one. */
    private static void rulesAnew() {
        CoatsOnChairs x = Check.laid("c1,1;l1;w0;v30;s0;s0;r0,1,1,1,0,0,0;");
        x.wipe();
        Check.put(x, "s0;r0,90,90,1,0,5,5;r0,5,5,1,0,0,0;");
        x.lay();
        due("w is 20 again", x.does(0, 19, 1), 1);
        due("w is 20 again", x.does(0, 20, 1), 4);
        due("v is 0 again", x.drawn(5, 0), 1);
        x.wipe();
        Check.put(x, LUNCH);
        x.lay();
        due("c, r are 30, 20 again", x.day(2, 4), 0);
        due("l is 15 again", x.seat(3, 15, 0, 1), 0);
        due("l is 15 again", x.seat(3, 16, 0, 1), NONE);
    }

    private static void readerAndKind() {
        CoatsOnChairs x = Check.laid("s3;s0;s2;s1;r0,1,1,1,0,0,0;r199,198,197,96,3,9,8;");
        int[] second = {199, 198, 197, 96, 3, 9, 8, 1};
        for (int what = 0; what < 8; what++) {
            due("reader 1 " + what, x.reader(1, what), second[what]);
        }
        x.hold(1, false);
        due("no holder", x.reader(1, 7), 0);
        due("still one", x.reader(0, 7), 1);
        int[] kinds = {3, 0, 2, 1};
        for (int s = 0; s < 4; s++) {
            due("kind " + s, x.kind(s), kinds[s]);
        }
        for (int wrong : new int[] {-1, 4, 10, LOWEST, HIGHEST}) {
            due("kind " + wrong, x.kind(wrong), BAD);
            due("reader " + wrong, x.reader(wrong, 0), BAD);
        }
        for (int wrong : new int[] {-1, 8, LOWEST, HIGHEST}) {
            due("reader 0 " + wrong, x.reader(0, wrong), BAD);
        }
        due("no third reader", x.reader(2, 0), BAD);
        due("no third reader", x.reader(2, 7), BAD);
    }

    private static void hold() {
        CoatsOnChairs x = Check.laid(LUNCH);
        due("was", x.hold(0, true), 1);
        due("was", x.hold(0, false), 1);
        due("was", x.hold(0, false), 0);
        due("the other one", x.hold(1, true), 1);
        due("not held", x.day(0, 1), 0);
        due("was", x.hold(0, true), 0);
        due("held", x.day(0, 1), 20);
        for (int wrong : new int[] {-1, 2, 8, 32, LOWEST, HIGHEST}) {
            due("hold " + wrong, x.hold(wrong, false), BAD);
        }
        due("all hold", x.count(3), 2);
    }

    private static void seatByLiking() {
        CoatsOnChairs x = Check.laid("s0;s1;s2;s3;r0,5,5,1,3,0,0;r0,5,5,1,3,0,0;r0,5,5,1,2,0,0;r0,5,5,1,1,0,0;");
        due("what has most", x.seat(0, 0, 3, 0), 0);
        due("of several the lowest", x.seat(0, 0, 1, 0), 1);
        due("what it likes", x.seat(0, 0, 2, 0), 2);
        due("what is left", x.seat(0, 0, 0, 0), 3);
        CoatsOnChairs y = Check.laid("s3;s1;s2;s0;r0,5,5,1,0,0,0;r0,5,5,1,2,0,0;");
        due("likes nothing: the lowest", y.seat(0, 0, 0, 0), 0);
        due("a bit of two counts as that one", y.seat(0, 0, 2, 0), 1);
    }

    private static void seatAndDoes() {
        CoatsOnChairs x = Check.laid(LUNCH + "w50;");
        due("not there", x.does(0, 1, 1), 0);
        due("seeks", x.does(0, 2, 1), 1);
        due("sits", x.does(0, 0, 0), 2);
        due("off", x.does(0, 1, 0), 3);
        due("holds", x.seat(0, 1, 0, 1), 0);
        due("does not sit", x.seat(0, 1, 0, 0), NONE);
        due("off still", x.does(0, 20, 0), 3);
        due("back", x.does(0, 21, 0), 2);
        due("sits again", x.seat(0, 21, 0, 0), 0);
        due("held no more", x.seat(0, 21, 0, 1), NONE);
        due("sits still", x.does(0, 27, 0), 2);
        due("gone", x.does(0, 28, 0), 4);
        due("its seat is free", x.seat(0, 28, 0, 0), NONE);
        due("the next one", x.seat(0, 29, 0, 0), 1);
        due("to the end", x.does(0, 399, 1), 4);
        CoatsOnChairs late = Check.laid("s0;s0;s0;r199,199,150,99,0,0,0;r199,199,199,1,0,0,0;r199,199,190,9,0,0,0;");
        due("off at the end", late.does(0, 399, 0), 3);
        due("holds at the end", late.seat(0, 399, 0, 1), 0);
        due("gone at 397", late.does(0, 396, 1), 2);
        due("gone at 397", late.does(0, 397, 1), 4);
        due("back at 397", late.does(0, 396, 2), 3);
        due("sits at the end", late.does(0, 399, 2), 2);
        due("sat", late.sat(0, 2), 193);
        due("sat", late.sat(0, 0), 150);
        wrongDays(x);
        lastMinute();
    }

    /** What happens in minute 399 counts still. */
    private static void lastMinute() {
        CoatsOnChairs x = Check.laid("s0;r199,199,51,51,0,0,0;r199,199,199,1,0,0,0;w99;");
        x.hold(0, false);
        due("seeks at 398", x.does(0, 398, 0), 1);
        due("gone at 399", x.does(0, 399, 0), 4);
        due("shut out", x.day(0, 3), 1);
        due("by CARDS, too: porter", x.porter(0), NONE);
        due("by CARDS, too: card", x.card(0), NONE);
        due("by a draw, too", x.drawn(0, 0), 1);
        due("on ten days, too", x.ten(0, 0), 0);
        // Reader 0 dares at 220, is off from 310 to 399; reader 1 seeks from 301 on and dares not.
        CoatsOnChairs y = Check.laid("s0;r199,199,91,89,0,9,9;r190,199,30,82,0,0,0;w99;");
        due("dares", y.seat(4, 220, 0, 0), 0);
        due("off at 398", y.does(4, 398, 0), 3);
        due("back at 399", y.does(4, 399, 0), 2);
        due("sat a minute more", y.sat(4, 0), 92);
        for (int set = 0; set < 4; set++) {
            due("that minute is worth holding: " + set, y.rest(4, set), set & 1);
        }
    }

    private static void wrongDays(CoatsOnChairs x) {
        for (int wrong : new int[] {-1, 5, LOWEST, HIGHEST}) {
            due("rule " + wrong, x.seat(wrong, 0, 0, 0), BAD);
            due("rule " + wrong, x.does(wrong, 0, 0), BAD);
            due("rule " + wrong, x.day(wrong, 0), BAD);
            due("rule " + wrong, x.sat(wrong, 0), BAD);
            due("reader " + wrong, x.does(0, 0, wrong), BAD);
            due("reader " + wrong, x.sat(0, wrong), BAD);
            due("seat " + wrong, x.seat(0, 0, wrong, 0), BAD);
            due("what " + wrong, x.seat(0, 0, 0, wrong), BAD);
        }
        for (int wrong : new int[] {-1, 400, LOWEST, HIGHEST}) {
            due("minute " + wrong, x.seat(0, wrong, 0, 0), BAD);
            due("minute " + wrong, x.does(0, wrong, 0), BAD);
        }
        for (int wrong : new int[] {-1, 6, LOWEST, HIGHEST}) {
            due("what " + wrong, x.day(0, wrong), BAD);
        }
        due("what 2", x.seat(0, 0, 0, 2), BAD);
        due("no seat 1", x.seat(0, 0, 1, 0), BAD);
        due("no reader 2", x.does(0, 0, 2), BAD);
        due("no reader 2", x.sat(0, 2), BAD);
    }

    private static void goingRound() {
        String room = "s0;r0,10,10,1,0,0,0;r2,3,3,1,0,0,0;";
        CoatsOnChairs x = Check.laid(room + "w3;");
        due("w3: seeks", x.does(0, 4, 1), 1);
        due("w3: gone", x.does(0, 5, 1), 4);
        due("w3: shut out", x.day(0, 3), 2);
        CoatsOnChairs y = Check.laid(room + "w7;");
        due("w7: seeks", y.does(0, 8, 1), 1);
        due("w7: gone in the minute that ends the other's", y.does(0, 9, 1), 4);
        CoatsOnChairs z = Check.laid(room + "w8;");
        due("w8: seeks", z.does(0, 9, 1), 1);
        due("w8: sits in the last minute", z.does(0, 10, 1), 2);
        due("w8: sat", z.sat(0, 1), 3);
        due("w8: nobody shut out", z.day(0, 2), 0);
        CoatsOnChairs at = Check.laid(room + "w0;");
        due("w0: not there", at.does(0, 1, 1), 0);
        due("w0: gone at once", at.does(0, 2, 1), 4);
        due("w0: sat nothing", at.sat(0, 1), 0);
        CoatsOnChairs early = Check.laid("s0;r5,1,1,1,0,0,0;r5,1,1,1,0,0,0;r5,1,1,1,0,0,0;w1;");
        due("the lowest first", early.seat(0, 5, 0, 0), NONE);
        due("gone by then", early.does(0, 5, 0), 4);
        due("the next one", early.does(0, 6, 1), 4);
        due("no seat for the third", early.day(0, 3), 4);
    }

    private static void cards() {
        CoatsOnChairs x = Check.laid(LUNCH + "c4,3;w50;");
        due("held for 4", x.seat(2, 5, 0, 1), 0);
        due("porter at 6", x.seat(2, 6, 0, 1), NONE);
        due("taken at 6", x.seat(2, 6, 0, 0), 1);
        due("back at 21, sits", x.does(2, 21, 0), 2);
        due("used", x.day(2, 0), 12);
        due("empty", x.day(2, 1), 5);
        due("shut out", x.day(2, 2), 0);
        due("thrown out", x.day(2, 4), 1);
        due("whom", x.day(2, 5), 1);
        due("held for 5 is enough", Check.laid(LUNCH + "c5,3;w50;").seat(2, 6, 0, 0), 1);
        CoatsOnChairs y = Check.laid(LUNCH + "c6,3;w50;");
        due("held for 5 is not", y.seat(2, 8, 0, 1), 0);
        due("but for 8", y.seat(2, 9, 0, 0), 1);
        due("no porter by ALL", x.seat(0, 20, 0, 1), 0);
        due("no porter by LAMPS", x.seat(3, 6, 0, 1), 0);
        due("no porter by DARING", x.seat(4, 6, 0, 1), 0);
    }

    private static void lamps() {
        CoatsOnChairs x = Check.laid(LUNCH + "l7;w50;");
        due("held for 6", x.seat(3, 7, 0, 1), 0);
        due("held for 7", x.seat(3, 8, 0, 0), 1);
        due("empty", x.day(3, 1), 7);
        due("used", x.day(3, 0), 12);
        due("thrown out", x.day(3, 5), 1);
        due("no lamp by CARDS", x.seat(2, 8, 0, 1), 0);
        due("no lamp by ALL", x.seat(0, 8, 0, 1), 0);
    }

    private static void daring() {
        CoatsOnChairs x = Check.laid(LUNCH + "w50;");
        due("a thing of 9, bold by 8, held for 9", x.seat(4, 10, 0, 1), 0);
        due("held for 10", x.seat(4, 11, 0, 0), 1);
        due("held no more", x.seat(4, 11, 0, 1), NONE);
        due("empty", x.day(4, 1), 10);
        due("thrown out", x.day(4, 5), 1);
        due("nobody dares by ALL", x.seat(0, 11, 0, 1), 0);
        due("nobody dares by CARDS", x.seat(2, 11, 0, 1), 0);
        CoatsOnChairs two = Check.laid("s0;s0;r0,9,1,50,0,5,0;r0,9,1,50,0,2,0;r1,3,3,1,0,0,2;w9;");
        due("the one whose thing is weak", two.seat(4, 1, 1, 0), 2);
        due("the other is held", two.seat(4, 1, 0, 1), 0);
        due("thrown out", two.day(4, 5), 2);
        CoatsOnChairs low = Check.laid("s0;s3;r0,9,1,50,0,2,0;r0,9,1,50,0,1,0;r1,3,3,1,3,0,2;w9;");
        due("the lowest, not the liked one", low.seat(4, 1, 0, 0), 2);
        CoatsOnChairs free = Check.laid("s3;s0;r0,9,1,50,0,0,0;r1,3,3,1,3,0,9;w9;");
        due("a free one ahead of all", free.seat(4, 1, 1, 0), 1);
        due("held still", free.seat(4, 1, 0, 1), 0);
        CoatsOnChairs again = Check.laid("s0;r0,9,1,9,0,0,0;r1,9,1,50,0,9,0;w99;");
        due("another one holds it now", again.seat(4, 1, 0, 1), 1);
        due("who comes back seeks", again.does(4, 9, 0), 1);
        due("and is thrown out", again.day(4, 5), 1);
        due("until its holder is back", again.does(4, 51, 1), 2);
    }

    private static void comingBack() {
        CoatsOnChairs x = Check.laid("s0;r0,10,2,5,0,0,0;c5,6;l5;");
        due("back ahead of the porter", x.does(2, 6, 0), 2);
        due("not thrown out", x.day(2, 4), 0);
        due("back ahead of the lamp", x.day(3, 4), 0);
        CoatsOnChairs y = Check.laid("s0;r0,10,2,5,0,0,0;l4;");
        due("the lamp was first", y.seat(3, 5, 0, 1), NONE);
        due("thrown out of a free seat", y.day(3, 4), 1);
        due("sits there again", y.does(3, 6, 0), 2);
        due("sat", y.sat(3, 0), 10);
        CoatsOnChairs z = Check.laid("s0;r0,10,2,5,0,0,0;r2,30,30,1,0,0,0;w3;");
        z.hold(0, false);
        due("another one sits there", z.does(0, 7, 1), 2);
        due("seeks", z.does(0, 6, 0), 1);
        due("seeks from when it came back", z.does(0, 8, 0), 1);
        due("shut out", z.does(0, 9, 0), 4);
        due("whom", z.day(0, 3), 1);
        due("held nothing: not thrown out", z.day(0, 5), 0);
        due("by NONE likewise", z.day(1, 5), 0);
        z.hold(0, true);
        due("by NONE nobody holds", z.seat(1, 1, 0, 1), NONE);
        due("by NONE nobody is thrown out", z.day(1, 4), 0);
        CoatsOnChairs never = Check.laid("s0;r0,10,10,1,0,0,0;s0;r0,10,11,1,0,0,0;");
        due("P is M: never off", never.day(0, 1), 0);
        due("P above M: never off", never.sat(0, 1), 10);
        due("nobody is off", never.does(0, 9, 0), 4);
    }

    private static void dayAndSat() {
        CoatsOnChairs x = Check.laid(LUNCH + "w9;");
        int[] used = {8, 12, 8, 8, 12};
        int[] empty = {20, 0, 20, 15, 10};
        int[] shut = {2, 0, 2, 2, 0};
        int[] thrown = {0, 0, 0, 1, 1};
        int[] second = {0, 5, 0, 0, 5};
        for (int rule = 0; rule < 5; rule++) {
            due("used by " + rule, x.day(rule, 0), used[rule]);
            due("empty by " + rule, x.day(rule, 1), empty[rule]);
            due("shut out by " + rule, x.day(rule, 2), shut[rule] / 2);
            due("whom by " + rule, x.day(rule, 3), shut[rule]);
            due("thrown out by " + rule, x.day(rule, 4), thrown[rule]);
            due("whom by " + rule, x.day(rule, 5), thrown[rule]);
            due("first sat by " + rule, x.sat(rule, 0), 10);
            due("second sat by " + rule, x.sat(rule, 1), second[rule]);
        }
    }

    private static void bettered() {
        due("all alike", new CoatsOnChairs().bettered(), 0);
        due("thrown out alone", Check.laid(LUNCH + "c4,3;w50;l4;").bettered(), 4 + 8 + 16);
        due("thrown out, no daring", Check.laid("s0;r0,10,2,20,0,9,0;r2,5,5,1,0,0,0;c4,3;w50;").bettered(), 4 + 8);
        // ALL and CARDS: 8, 1, 0; NONE: 12, 0, 0; LAMPS: 8, 1, 1; DARING: 12, 0, 1.
        CoatsOnChairs x = Check.laid(LUNCH + "w9;");
        due("all but NONE", x.bettered(), 1 + 4 + 8 + 16);
        x.hold(0, false);
        due("nobody holds: all alike", x.bettered(), 0);
    }

    private static void rest() {
        CoatsOnChairs x = Check.laid(GAME);
        int[] want = {0, 1, 0, 1};
        for (int set = 0; set < 4; set++) {
            due("rest by ALL " + set, x.rest(0, set), want[set]);
            due("rest by NONE " + set, x.rest(1, set), 1);
        }
        for (int wrong : new int[] {-1, 4, 256, LOWEST, HIGHEST}) {
            due("set " + wrong, x.rest(0, wrong), BAD);
        }
        for (int wrong : new int[] {-1, 5, LOWEST, HIGHEST}) {
            due("rule " + wrong, x.rest(wrong, 0), BAD);
        }
        due("nothing changed", x.count(3), 2);
        x.hold(0, false);
        due("whoever holds now", x.rest(0, 1), 1);
        due("whoever holds now", x.rest(0, 0), 0);
        due("a day beside it", x.sat(0, 0), 2);
    }

    private static void rests() {
        CoatsOnChairs x = Check.laid(GAME);
        int[][] want = {{2, 1, 3}, {4, 0, 3}, {2, 1, 3}, {2, 1, 3}};
        for (int rule = 0; rule < 4; rule++) {
            for (int what = 0; what < 3; what++) {
                due("rests by " + rule + " " + what, x.rests(rule, what), want[rule][what]);
            }
        }
        for (int wrong : new int[] {-1, 5, LOWEST, HIGHEST}) {
            due("rule " + wrong, x.rests(wrong, 0), BAD);
            due("what " + wrong, x.rests(0, wrong), BAD);
        }
        due("what 3", x.rests(0, 3), BAD);
        due("by ALL", x.rests(0, 0), 2);
        x.wipe();
        Check.put(x, "s0;s0;" + GAME);
        x.lay();
        due("with seats for all, all rest", x.rests(0, 0), 4);
        String restless = "s0;r1,8,1,8,0,2,3;r1,6,2,7,0,3,3;r3,7,3,1,0,1,1;c3,1;l2;w2;";
        CoatsOnChairs y = Check.laid(restless);
        due("the model has none either", Model.of(restless).rests(3)[0], 0);
        due("no set rests: how many", y.rests(3, 0), 0);
        due("no set rests: the least", y.rests(3, 1), NONE);
        due("no set rests: the greatest", y.rests(3, 2), NONE);
        due("eight readers", Check.laid("s0;" + "r0,1,1,1,0,0,0;".repeat(8)).rests(0, 0), 256);
        due("eight readers", Check.laid("s0;" + "r0,1,1,1,0,0,0;".repeat(8)).rests(0, 2), 255);
        CoatsOnChairs eighth = Check.laid("s0;" + "r150,1,1,1,0,0,0;".repeat(6) + "r2,9,9,1,0,0,0;r0,4,2,2,0,0,0;w0;");
        due("the eighth one must hold: how many", eighth.rests(0, 0), 128);
        due("the eighth one must hold: the least", eighth.rests(0, 1), 128);
        due("the eighth one must hold: the greatest", eighth.rests(0, 2), 255);
        due("the eighth one does not", eighth.rest(0, 127), 0);
    }

    private static void rounds() {
        CoatsOnChairs x = Check.laid("s0;r0,10,10,1,0,0,0;");
        int[] every = {1, 2, 3, 8, 9, 10, 99};
        int[] want = {9, 10, 9, 16, 9, 10, 99};
        for (int k = 0; k < every.length; k++) {
            due("rounds of " + every[k], x.rounds(0, every[k]), want[k]);
        }
        CoatsOnChairs late = Check.laid("s0;s0;r199,199,1,99,0,0,0;r199,199,1,99,0,0,0;w99;");
        // Both sit from 298 on, to 399 and beyond.
        due("to 399", late.rounds(0, 1), 204);
        due("19 times 21 is 399", late.rounds(0, 21), 21 * 2 * 5);
        due("0 to 396", late.rounds(0, 99), 99 * 2 * 1);
        for (int wrong : new int[] {-1, 0, 100, LOWEST, HIGHEST}) {
            due("rounds of " + wrong, x.rounds(0, wrong), BAD);
        }
        for (int wrong : new int[] {-1, 5, LOWEST, HIGHEST}) {
            due("rule " + wrong, x.rounds(wrong, 1), BAD);
        }
    }

    private static void often() {
        CoatsOnChairs x = Check.laid("s0;r0,10,10,1,0,0,0;");
        due("0 off", x.often(0, 0), 9);
        due("1 off", x.often(0, 1), 10);
        due("89 off", x.often(0, 89), 98);
        due("90 off", x.often(0, 90), 99);
        due("9999 off", x.often(0, 9999), 99);
        CoatsOnChairs below = Check.laid("s0;r1,5,5,1,0,0,0;");
        // Sits behind 1 to 4: four are used, and whoever goes every five minutes or less often sees nobody.
        due("too few by 4", below.often(0, 4), 99);
        due("too few by 4 is more than 3", below.often(0, 3), 4);
        for (int wrong : new int[] {-1, 10000, LOWEST, HIGHEST}) {
            due("off by " + wrong, x.often(0, wrong), BAD);
        }
        for (int wrong : new int[] {-1, 5, LOWEST, HIGHEST}) {
            due("rule " + wrong, x.often(wrong, 0), BAD);
        }
    }

    private static void porterAndCard() {
        CoatsOnChairs x = Check.laid(LUNCH + "c4,3;w10;");
        due("porter at 12 at the latest", x.porter(0), 12);
        due("porter, one shut out", x.porter(1), 99);
        due("card for 11 at most", x.card(0), 11);
        due("card, one shut out", x.card(1), 99);
        due("porter, eight", x.porter(8), 99);
        due("card, eight", x.card(8), 99);
        due("c and r stay", x.seat(2, 6, 0, 0), 1);
        CoatsOnChairs full = Check.laid("s0;r0,50,50,1,0,0,0;r0,5,5,1,0,0,0;w0;");
        due("no porter helps", full.porter(0), NONE);
        due("no card helps", full.card(0), NONE);
        due("one", full.porter(1), 99);
        // 101 is a prime, held for 98 then; the other one comes just then, for a minute.
        due("porter every minute", Check.laid("s0;r0,199,4,99,0,0,0;r101,1,1,1,0,0,0;c98,50;w0;").porter(0), 1);
        due("card for a minute", Check.laid("s0;r0,199,4,99,0,0,0;r4,1,1,1,0,0,0;c30,4;w0;").card(0), 1);
        x.hold(0, false);
        due("nobody holds", x.porter(0), 99);
        due("nobody holds", x.card(0), 99);
        for (int wrong : new int[] {-1, 9, LOWEST, HIGHEST}) {
            due("porter " + wrong, full.porter(wrong), BAD);
            due("card " + wrong, full.card(wrong), BAD);
        }
    }

    private static void booked() {
        CoatsOnChairs x = new CoatsOnChairs();
        long[][] want = {{2, 1, 5, 3, 4}, {1, 1, 9, 1, 1}, {2, 1, 10, 0, 1}, {3, 1, 0, 1, 1}, {14, 1, 5, 15, 16384},
            {14, 13, 9, 77123207545039L, 100000000000000L}, {14, 14, 7, 1, 1}, {1, 14, 10, 1, 1}, {2, 1, 2, 24, 25}};
        for (long[] w : want) {
            int n = (int) w[0], k = (int) w[1], s = (int) w[2];
            due("booked " + n + " " + k + " " + s + " above", x.booked(n, k, s, 0), w[3]);
            due("booked " + n + " " + k + " " + s + " below", x.booked(n, k, s, 1), w[4]);
        }
        for (int wrong : new int[] {-1, 15, LOWEST, HIGHEST}) {
            due("n " + wrong, x.booked(wrong, 1, 1, 0), BAD);
            due("k " + wrong, x.booked(1, wrong, 1, 0), BAD);
            due("s " + wrong, x.booked(1, 1, wrong, 0), BAD);
            due("part " + wrong, x.booked(1, 1, 1, wrong), BAD);
        }
        due("n 0", x.booked(0, 1, 1, 0), BAD);
        due("k 0", x.booked(1, 0, 1, 0), BAD);
        due("s 11", x.booked(1, 1, 11, 0), BAD);
        due("part 2", x.booked(1, 1, 1, 2), BAD);
    }

    private static void over() {
        CoatsOnChairs x = new CoatsOnChairs();
        due("three of four", x.over(1, 5, 75), 2);
        due("more than that", x.over(1, 5, 76), 1);
        due("a half", x.over(1, 5, 50), 3);
        due("more than that", x.over(1, 5, 51), 2);
        due("972 of a thousand are not 98 of a hundred", x.over(1, 1, 98), 2);
        due("but 97", x.over(1, 1, 97), 3);
        due("nobody comes", x.over(1, 0, 100), 14);
        due("all come", x.over(1, 10, 1), 1);
        due("all come, no odds asked", x.over(1, 10, 0), 14);
        due("14 seats", x.over(14, 10, 100), 14);
        due("13 seats, all come", x.over(13, 10, 100), 13);
        for (int wrong : new int[] {-1, 101, LOWEST, HIGHEST}) {
            due("k " + wrong, x.over(wrong, 1, 1), BAD);
            due("s " + wrong, x.over(1, wrong, 1), BAD);
            due("q " + wrong, x.over(1, 1, wrong), BAD);
        }
        due("k 0", x.over(0, 1, 1), BAD);
        due("k 15", x.over(15, 1, 1), BAD);
        due("s 11", x.over(1, 11, 1), BAD);
    }

    private static void dare() {
        CoatsOnChairs x = Check.laid("s0;r0,60,30,10,0,0,0;r0,60,59,20,0,0,0;r0,60,60,15,0,0,0;r0,60,30,35,0,0,0;");
        int[][] want = {{0, 9, 0, 3}, {0, 10, 1, 3}, {9, 1, 1, 3}, {10, 9, 0, 2}, {10, 10, 1, 2}, {34, 1, 1, 1}, {0, 99, 3, 3},
            {35, 1, NONE, NONE}, {98, 99, NONE, NONE}};
        for (int[] w : want) {
            due("dare " + w[0] + " " + w[1], x.dare(w[0], w[1], 0), w[2]);
            due("dare of " + w[0] + " " + w[1], x.dare(w[0], w[1], 1), w[3]);
        }
        x.hold(0, false);
        due("whoever holds", x.dare(0, 10, 0), 1);
        CoatsOnChairs longest = Check.laid("s0;r0,60,30,99,0,0,0;");
        due("98 and 1", longest.dare(98, 1, 0), 1);
        due("97 and 1", longest.dare(97, 1, 0), 0);
        for (int wrong : new int[] {-1, 100, LOWEST, HIGHEST}) {
            due("m " + wrong, x.dare(wrong, 1, 0), BAD);
            due("n " + wrong, x.dare(0, wrong, 0), BAD);
            due("what " + wrong, x.dare(0, 1, wrong), BAD);
        }
        due("m 99", x.dare(99, 1, 0), BAD);
        due("n 0", x.dare(0, 0, 0), BAD);
        due("what 2", x.dare(0, 1, 2), BAD);
    }

    private static void drawnAndTen() {
        String two = "s0;r0,1,1,1,0,0,0;r0,1,1,1,0,0,0;w0;";
        // By z = 0 the draws are 1 and 41487: modulo 31 they are 1 and 9, modulo 2 1 and 1, modulo 3 1 and 0.
        due("v30", Check.laid(two + "v30;").drawn(0, 0), 0);
        due("v1", Check.laid(two + "v1;").drawn(0, 0), 1);
        due("v2", Check.laid(two + "v2;").drawn(0, 0), 0);
        // By z = 1 the draws are 22803 and 54100: modulo 31 they are 18 and 5.
        for (int a = 10; a < 17; a++) {
            CoatsOnChairs at = Check.laid("s0;r0,1,1,1,0,0,0;r" + a + ",1,1,1,0,0,0;w0;v30;");
            due("18 beside 5 and " + a, at.drawn(1, 0), a == 13 ? 1 : 0);
        }
        CoatsOnChairs x = Check.laid(two);
        due("nobody comes later", x.drawn(0, 0), 1);
        due("no good day", x.ten(0, 0), 0);
        due("a day without a draw", Check.laid(two + "v30;").day(0, 2), 1);
        CoatsOnChairs y = Check.laid(two + "v2;");
        for (int z : new int[] {0, 1, 500, 9989, 9990, 9991, 9998, 9999}) {
            int good = 0;
            for (int k = 0; k < 10; k++) {
                good += y.drawn((z + k) % 10000, 3) == 0 ? 1 : 0;
            }
            due("ten " + z, y.ten(z, 3), good);
        }
        due("ten good days", Check.laid("s0;s0;" + two).ten(9999, 4), 10);
        CoatsOnChairs holds = Check.laid("s0;r0,10,2,20,0,9,0;r2,5,5,1,0,0,0;w2;");
        due("shut out by holding", holds.drawn(7, 0), 1);
        holds.hold(0, false);
        due("nobody holds", holds.drawn(7, 0), 0);
        for (int wrong : new int[] {-1, 10000, LOWEST, HIGHEST}) {
            due("drawn " + wrong, x.drawn(wrong, 0), BAD);
            due("ten " + wrong, x.ten(wrong, 0), BAD);
            due("drawn by " + wrong, x.drawn(0, wrong), BAD);
            due("ten by " + wrong, x.ten(0, wrong), BAD);
        }
        due("drawn by 5", x.drawn(0, 5), BAD);
        due("ten by 5", x.ten(0, 5), BAD);
    }

    private static void keepAndBack() {
        CoatsOnChairs x = Check.laid(LUNCH);
        due("nothing kept", x.back(), NO);
        due("keep", x.keep(), 1);
        x.hold(0, false);
        due("keep", x.keep(), 2);
        x.hold(1, false);
        due("full", x.keep(), FULL);
        due("two", x.count(4), 2);
        due("none holds", x.count(3), 0);
        due("back", x.back(), 1);
        due("not the first", x.reader(0, 7), 0);
        due("but the second", x.reader(1, 7), 1);
        due("back", x.back(), 0);
        due("the first, too", x.reader(0, 7), 1);
        due("no more", x.back(), NO);
        due("as it was", x.count(3), 2);
        due("keep again", x.keep(), 1);
        x.wipe();
        due("wiping leaves it", x.count(4), 1);
    }

    private static void count() {
        CoatsOnChairs x = Check.laid("s0;s1;s2;r0,1,1,1,0,0,0;r0,1,1,1,0,0,0;");
        x.hold(1, false);
        x.keep();
        int[] want = {3, 2, 39, 1, 1};
        for (int what = 0; what < 5; what++) {
            due("count " + what, x.count(what), want[what]);
        }
        for (int wrong : new int[] {-1, 5, LOWEST, HIGHEST}) {
            due("count " + wrong, x.count(wrong), BAD);
        }
    }

    private static void badComesFirst() {
        CoatsOnChairs x = Check.laid("s0;r0,50,50,1,0,0,0;r0,5,5,1,0,0,0;w0;");
        due("BAD ahead of NONE: seat", x.seat(0, 399, 0, 2), BAD);
        due("BAD ahead of NONE: dare", x.dare(98, 1, 2), BAD);
        due("BAD ahead of NONE: dare", x.dare(98, 0, 0), BAD);
        due("the seat is empty", x.seat(0, 399, 0, 0), NONE);
        due("nobody goes off", x.dare(98, 1, 0), NONE);
        for (int call = 0; call < 2; call++) {
            due("the same answers again", x.day(0, 3), 2);
            due("the same answers again", x.seat(0, 3, 0, 0), 0);
        }
    }
}
