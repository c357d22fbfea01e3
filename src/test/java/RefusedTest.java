import java.util.ArrayList;
import java.util.List;

/** "Of several the first in this order, whatever the order at a call; nothing changes then." */
public final class RefusedTest {
    private static final int BAD = -1, NO = -2, FULL = -3, NONE = -4;
    private static final int[] FAR = {Integer.MIN_VALUE, Integer.MAX_VALUE};
    private static final Check CHECK = new Check();

    private interface Call {
        long on(CoatsOnChairs x);
    }

    private record Told(String name, long due, Call call) { }

    /** How an object came to stand as it does; each call makes a new one. */
    private interface Way {
        CoatsOnChairs made();
    }

    private static final List<Told> TOLD = new ArrayList<>();

    public static void main(String[] args) {
        badNumbers();
        unchanged("new", CoatsOnChairs::new);
        unchanged("kept and full", RefusedTest::keptAndFull);
        unchanged("a faulty text", RefusedTest::faultyText);
        unchanged("a text to lay", RefusedTest::textToLay);
        refusedAsThingsStand();
        noneChangesNothing();
        badAheadOfAll();
        CHECK.end();
    }

    private static void bad(String name, Call call) {
        TOLD.add(new Told(name, BAD, call));
    }

    /** Every number of every call, below and above what is told: with one wrong number and with all wrong. */
    private static void badNumbers() {
        for (int n : around(1, 8)) {
            bad("write " + n, x -> x.write(n, 0x73303b73303bL));
        }
        for (int r : around(0, 4)) {
            bad("seat by " + r, x -> x.seat(r, 0, 0, 0));
            bad("does by " + r, x -> x.does(r, 0, 0));
            bad("day by " + r, x -> x.day(r, 0));
            bad("sat by " + r, x -> x.sat(r, 0));
            bad("rest by " + r, x -> x.rest(r, 0));
            bad("rests by " + r, x -> x.rests(r, 0));
            bad("rounds by " + r, x -> x.rounds(r, 1));
            bad("often by " + r, x -> x.often(r, 0));
            bad("drawn by " + r, x -> x.drawn(0, r));
            bad("ten by " + r, x -> x.ten(0, r));
            bad("count " + r, x -> x.count(r));
            bad("all wrong: seat " + r, x -> x.seat(r, -1, -1, -1));
            bad("all wrong: booked " + r, x -> x.booked(0, 15, 11, r < 0 ? r : 2));
        }
        for (int t : around(0, 399)) {
            bad("seat at " + t, x -> x.seat(0, t, 0, 0));
            bad("does at " + t, x -> x.does(0, t, 0));
        }
        // There are ten seats and eight readers at most, in whatever room.
        for (int s : around(0, 9)) {
            bad("seat " + s, x -> x.seat(0, 0, s, 0));
            bad("kind " + s, x -> x.kind(s));
        }
        for (int i : around(0, 7)) {
            bad("reader " + i, x -> x.reader(i, 0));
            bad("hold " + i, x -> x.hold(i, false));
            bad("hold " + i + " again", x -> x.hold(i, true));
            bad("does " + i, x -> x.does(0, 0, i));
            bad("sat " + i, x -> x.sat(0, i));
            bad("reader 0 " + i, x -> x.reader(0, i));
        }
        badOutlook();
        badOdds();
    }

    private static void badOutlook() {
        for (int what : around(0, 1)) {
            bad("seat, what " + what, x -> x.seat(0, 0, 0, what));
            bad("dare, what " + what, x -> x.dare(0, 1, what));
            bad("booked, part " + what, x -> x.booked(1, 1, 1, what));
        }
        for (int what : around(0, 5)) {
            bad("day, what " + what, x -> x.day(0, what));
        }
        for (int what : around(0, 2)) {
            bad("rests, what " + what, x -> x.rests(0, what));
        }
        for (int set : around(0, 255)) {
            bad("rest " + set, x -> x.rest(0, set));
        }
        for (int r : around(1, 99)) {
            bad("rounds " + r, x -> x.rounds(0, r));
            bad("dare, n " + r, x -> x.dare(0, r, 0));
        }
        for (int e : around(0, 9999)) {
            bad("often " + e, x -> x.often(0, e));
            bad("drawn " + e, x -> x.drawn(e, 0));
            bad("ten " + e, x -> x.ten(e, 0));
        }
        for (int few : around(0, 8)) {
            bad("porter " + few, x -> x.porter(few));
            bad("card " + few, x -> x.card(few));
        }
        for (int m : around(0, 98)) {
            bad("dare, m " + m, x -> x.dare(m, 1, 0));
        }
    }

    private static void badOdds() {
        for (int n : around(1, 14)) {
            bad("booked, n " + n, x -> x.booked(n, 1, 1, 0));
            bad("booked, k " + n, x -> x.booked(1, n, 1, 0));
            bad("over, k " + n, x -> x.over(n, 1, 1));
        }
        for (int s : around(0, 10)) {
            bad("booked, s " + s, x -> x.booked(1, 1, s, 0));
            bad("over, s " + s, x -> x.over(1, s, 1));
        }
        for (int q : around(0, 100)) {
            bad("over, q " + q, x -> x.over(1, 1, q));
        }
    }

    private static int[] around(int least, int most) {
        return new int[] {least - 1, most + 1, FAR[0], FAR[1]};
    }

    /** Three readers, two of whom hold; two sets kept; a text of 400 bytes that is laid. */
    private static CoatsOnChairs keptAndFull() {
        CoatsOnChairs x = Check.laid("s1;s2;r0,9,2,5,1,3,4;r1,20,4,30,2,0,9;r2,30,5,9,3,1,1;c4,3;l4;w5;v7;" + "w005;".repeat(64) + "w5;w5;w5;w5;");
        if (x.count(2) != 400) {
            throw new IllegalStateException("not 400 but " + x.count(2));
        }
        x.hold(0, false);
        x.keep();
        x.hold(2, false);
        x.keep();
        x.hold(0, true);
        return x;
    }

    private static CoatsOnChairs faultyText() {
        CoatsOnChairs x = Check.laid("s3;r3,9,2,5,1,3,4;r1,20,4,30,2,0,9;");
        x.hold(1, false);
        x.keep();
        x.hold(1, true);
        Check.put(x, "s0;r0,1,1");
        return x;
    }

    private static CoatsOnChairs textToLay() {
        CoatsOnChairs x = Check.laid("s3;r3,9,2,5,1,3,4;r1,20,4,30,2,0,9;");
        x.hold(0, false);
        x.wipe();
        Check.put(x, "s1;s1;s2;r7,8,9,10,1,2,3;");
        return x;
    }

    /** Each refused call by itself, and all of them one behind the other, leave the object as its twin. */
    private static void unchanged(String name, Way way) {
        List<Long> twin = trail(way.made());
        CoatsOnChairs all = way.made();
        for (Told told : TOLD) {
            CoatsOnChairs x = way.made();
            CHECK.due(name + ": " + told.name, told.call.on(x), told.due);
            same(name + " behind " + told.name, trail(x), twin);
        }
        for (int k = 0; k < TOLD.size() && k < 100; k++) {
            TOLD.get(k).call.on(all);
        }
        same(name + " behind many of them", trail(all), twin);
    }

    private static void same(String name, List<Long> got, List<Long> due) {
        CHECK.due(name + ": as many answers", got.size(), due.size());
        for (int k = 0; k < Math.min(got.size(), due.size()); k++) {
            CHECK.due(name + ": answer " + k + " of its twin", got.get(k), due.get(k));
        }
    }

    /** All that can be seen of an object, the kept sets and the text's bytes by using them up: some 320 answers. */
    private static List<Long> trail(CoatsOnChairs x) {
        List<Long> seen = new ArrayList<>();
        look(x, seen);
        for (int turn = 0; turn < 3; turn++) {
            seen.add((long) x.back());
            holders(x, seen);
        }
        seen.add((long) x.fault());
        seen.add((long) x.lay());
        look(x, seen);
        seen.add((long) x.write(1, ';'));
        seen.add((long) x.fault());
        seen.add((long) x.wipe());
        return seen;
    }

    private static void look(CoatsOnChairs x, List<Long> seen) {
        for (int what = 0; what < 5; what++) {
            seen.add((long) x.count(what));
        }
        for (int i = 0; i < x.count(1); i++) {
            for (int what = 0; what < 7; what++) {
                seen.add((long) x.reader(i, what));
            }
        }
        for (int s = 0; s < x.count(0); s++) {
            seen.add((long) x.kind(s));
        }
        for (int rule = 0; rule < 5; rule++) {
            for (int what = 0; what < 6; what++) {
                seen.add((long) x.day(rule, what));
            }
            seen.add((long) x.rests(rule, 0));
        }
        seen.add((long) x.drawn(5, 0));
        holders(x, seen);
    }

    private static void holders(CoatsOnChairs x, List<Long> seen) {
        for (int i = 0; i < x.count(1); i++) {
            seen.add((long) x.reader(i, 7));
        }
    }

    /** NO and FULL, as things stand: nothing changes either. */
    private static void refusedAsThingsStand() {
        alone("keep when two are kept", RefusedTest::keptAndFull, FULL, CoatsOnChairs::keep);
        for (int n = 1; n <= 8; n++) {
            int many = n;
            alone("write " + n + " when 400 are written", RefusedTest::keptAndFull, FULL, x -> x.write(many, 0x7777777777777777L));
        }
        alone("lay a faulty text", RefusedTest::faultyText, NO, CoatsOnChairs::lay);
        alone("lay an empty text", CoatsOnChairs::new, NO, CoatsOnChairs::lay);
        alone("lay a text without a reader", () -> Check.written("s0;"), NO, CoatsOnChairs::lay);
        alone("lay a text without a seat", () -> Check.written("r0,1,1,1,0,0,0;"), NO, CoatsOnChairs::lay);
        alone("back when nothing is kept", CoatsOnChairs::new, NO, CoatsOnChairs::back);
        alone("back when nothing is kept", RefusedTest::textToLay, NO, CoatsOnChairs::back);
    }

    private static void alone(String name, Way way, long due, Call call) {
        CoatsOnChairs x = way.made();
        CHECK.due(name, call.on(x), due);
        CHECK.due(name + ", again", call.on(x), due);
        same(name, trail(x), trail(way.made()));
    }

    /** Neither do calls that answer NONE, nor those that only ask, change anything. */
    private static void noneChangesNothing() {
        alone("fault of a good text", RefusedTest::textToLay, NONE, CoatsOnChairs::fault);
        alone("fault of another one", RefusedTest::faultyText, 38, CoatsOnChairs::fault);
        alone("a free seat", RefusedTest::textToLay, NONE, x -> x.seat(0, 399, 0, 0));
        alone("a seat that nobody holds", RefusedTest::textToLay, NONE, x -> x.seat(0, 0, 0, 1));
        alone("dare", RefusedTest::textToLay, NONE, x -> x.dare(98, 1, 0));
        String full = "s0;r0,50,50,1,0,0,0;r0,5,5,1,0,0,0;w0;";
        alone("porter", () -> Check.laid(full), NONE, x -> x.porter(0));
        alone("card", () -> Check.laid(full), NONE, x -> x.card(0));
        alone("porter that helps", RefusedTest::keptAndFull, 99, x -> x.porter(8));
        alone("card that helps", RefusedTest::keptAndFull, 99, x -> x.card(8));
        String restless = "s0;r1,8,1,8,0,2,3;r1,6,2,7,0,3,3;r3,7,3,1,0,1,1;c3,1;l2;w2;";
        alone("rests", () -> Check.laid(restless), NONE, x -> x.rests(3, 1));
        alone("rest", () -> Check.laid(restless), 0, x -> x.rest(3, 0));
        alone("ten", RefusedTest::keptAndFull, RefusedTest.keptAndFull().ten(9999, 1), x -> x.ten(9999, 1));
        alone("bettered", RefusedTest::keptAndFull, RefusedTest.keptAndFull().bettered(), CoatsOnChairs::bettered);
    }

    /** BAD goes ahead of NONE and of FULL, be the wrong number the first one or the last. */
    private static void badAheadOfAll() {
        CoatsOnChairs full = keptAndFull();
        CHECK.due("no room, and 0 bytes", full.write(0, 0), BAD);
        CHECK.due("no room, and 9 bytes", full.write(9, 0), BAD);
        CHECK.due("no room", full.write(1, 0), FULL);
        CoatsOnChairs x = Check.laid("s0;r0,50,50,1,0,0,0;r0,5,5,1,0,0,0;w0;");
        CHECK.due("nobody sits", x.seat(0, 399, 0, 0), NONE);
        CHECK.due("nobody sits, by rule 5", x.seat(5, 399, 0, 0), BAD);
        CHECK.due("nobody sits, at 400", x.seat(0, 400, 0, 0), BAD);
        CHECK.due("nobody sits, on seat 1", x.seat(0, 399, 1, 0), BAD);
        CHECK.due("nobody sits, what 2", x.seat(0, 399, 0, 2), BAD);
        CHECK.due("nobody goes off", x.dare(98, 99, 1), NONE);
        CHECK.due("nobody goes off, m 99", x.dare(99, 99, 1), BAD);
        CHECK.due("nobody goes off, n 100", x.dare(98, 100, 1), BAD);
        CHECK.due("nobody goes off, what 2", x.dare(98, 99, 2), BAD);
        CHECK.due("no porter", x.porter(0), NONE);
        CHECK.due("no porter, x -1", x.porter(-1), BAD);
        CHECK.due("no card", x.card(0), NONE);
        CHECK.due("no card, x -1", x.card(-1), BAD);
        CoatsOnChairs restless = Check.laid("s0;r1,8,1,8,0,2,3;r1,6,2,7,0,3,3;r3,7,3,1,0,1,1;c3,1;l2;w2;");
        CHECK.due("no set rests", restless.rests(3, 2), NONE);
        CHECK.due("no set rests, what 3", restless.rests(3, 3), BAD);
        CHECK.due("no set rests, rule 5", restless.rests(5, 2), BAD);
    }
}
