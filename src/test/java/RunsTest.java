import java.util.ArrayList;
import java.util.List;
import java.util.Random;

/** Runs of 512 calls by a fixed draw, each answer beside what a plain keeper of the model's rooms says. */
public final class RunsTest {
    private static final int BAD = -1, NO = -2, FULL = -3, NONE = -4;
    private static final int RUNS = 60, CALLS = 512;
    private static final Check CHECK = new Check();
    private static final Random DRAW = new Random(512);
    private static final String[] CALLED = {"write", "wipe", "fault", "lay", "reader", "kind", "hold", "seat", "does", "day", "sat", "bettered",
        "rest", "rests", "rounds", "often", "porter", "card", "booked", "over", "dare", "drawn", "ten", "keep", "back", "count"};
    // How often each is drawn: the dear ones seldom, the ones that change something often.
    private static final int[] OFTEN = {60, 1, 6, 8, 6, 4, 12, 10, 10, 10, 6, 2, 4, 2, 4, 2, 1, 1, 3, 3, 4, 4, 1, 8, 7, 8};

    private final CoatsOnChairs asked = new CoatsOnChairs();
    private final StringBuilder text = new StringBuilder();
    private final List<Integer> kept = new ArrayList<>();
    private Model room = Model.of("s0;r0,60,30,10,0,5,5;");
    private int holders = 1;
    private String coming = "";
    private boolean layNext = false;

    public static void main(String[] args) {
        int laid = 0;
        for (int run = 0; run < RUNS; run++) {
            laid += new RunsTest().run(run);
        }
        CHECK.due("five rooms a run at least were laid: " + laid, laid > 5 * RUNS ? 1 : 0, 1);
        CHECK.end();
    }

    private int run(int run) {
        int laid = 0;
        String call = "";
        for (int k = 0; k < CALLS; k++) {
            // Without that a text would soon be at fault for good.
            call = layNext ? "lay" : call.equals("lay") && DRAW.nextInt(3) > 0 ? "wipe" : drawCall();
            layNext = false;
            int[] n = {number(), number(), number(), number()};
            long got = BAD - 100;
            long due = 0;
            try {
                due = due(call, n);
                got = ask(call, n);
            } catch (RuntimeException thrown) {
                System.out.println(thrown);
            }
            laid += call.equals("lay") && due > 0 ? 1 : 0;
            CHECK.due("run " + run + ", call " + k + ": " + call + " " + n[0] + " " + n[1] + " " + n[2] + " " + n[3], got, due);
        }
        return laid;
    }

    private static String drawCall() {
        int all = 0;
        for (int often : OFTEN) {
            all += often;
        }
        int at = DRAW.nextInt(all);
        int which = 0;
        while (at >= OFTEN[which]) {
            at -= OFTEN[which];
            which++;
        }
        return CALLED[which];
    }

    /** Small ones mostly, now and then those beyond all limits. */
    private static int number() {
        int[] edges = {-1, 0, 98, 99, 100, 398, 399, 400, 9998, 9999, 10000, Integer.MIN_VALUE, Integer.MAX_VALUE};
        int dice = DRAW.nextInt(20);
        return dice == 0 ? edges[DRAW.nextInt(edges.length)] : dice < 3 ? DRAW.nextInt(401) - 1 : dice < 6 ? DRAW.nextInt(16) - 1 : DRAW.nextInt(5);
    }

    // What was asked last, so that due and ask see the same bytes.
    private int bytes;
    private long value;

    private void drawBytes(int wrong) {
        if (coming.isEmpty()) {
            coming = drawText();
        }
        if (DRAW.nextInt(25) == 0) {
            bytes = DRAW.nextInt(6) == 0 ? 8 : wrong;
            value = DRAW.nextLong();
            return;
        }
        bytes = Math.min(coming.length(), 4 + DRAW.nextInt(5));
        value = DRAW.nextLong();
        for (int k = 0; k < bytes; k++) {
            value = value << 8 | coming.charAt(k);
        }
        coming = coming.substring(bytes);
        layNext = coming.isEmpty();
    }

    private static String drawText() {
        StringBuilder drawn = new StringBuilder();
        for (int k = DRAW.nextInt(3); k >= 0; k--) {
            drawn.append('s').append(DRAW.nextInt(4)).append(';');
        }
        for (int k = DRAW.nextInt(4); k >= 0; k--) {
            int m = 1 + DRAW.nextInt(DRAW.nextBoolean() ? 12 : 199);
            drawn.append('r').append(DRAW.nextInt(DRAW.nextBoolean() ? 10 : 200)).append(',').append(m).append(',');
            drawn.append(1 + DRAW.nextInt(m)).append(',').append(1 + DRAW.nextInt(DRAW.nextBoolean() ? 9 : 99)).append(',');
            drawn.append(DRAW.nextInt(4)).append(',').append(DRAW.nextInt(10)).append(',').append(DRAW.nextInt(10)).append(';');
        }
        String[] others = {"c" + (1 + DRAW.nextInt(9)) + "," + (1 + DRAW.nextInt(9)) + ";", "l" + (1 + DRAW.nextInt(9)) + ";",
            "w" + DRAW.nextInt(9) + ";", "v" + DRAW.nextInt(31) + ";"};
        for (String other : others) {
            drawn.append(DRAW.nextBoolean() ? other : "");
        }
        return drawn.toString();
    }

    private static boolean in(int number, int least, int most) {
        return number >= least && number <= most;
    }

    private boolean isReader(int i) {
        return in(i, 0, room.readers.size() - 1);
    }

    private static boolean isRule(int rule) {
        return in(rule, 0, 4);
    }

    /** Numbers that a call needs large are made so; due and ask must do it alike. */
    private static int scaled(int n, int factor) {
        return n < 0 || n > 400 ? n : n * factor;
    }

    private long due(String call, int[] n) {
        switch (call) {
            case "write":
                drawBytes(n[0]);
                return write();
            case "wipe":
                int was = text.length();
                text.setLength(0);
                coming = "";
                return was;
            case "fault":
                return Model.fault(text.toString());
            case "lay":
                return lay();
            case "hold":
                return hold(n[0], n[1] % 2 == 0);
            case "keep":
                if (kept.size() == 2) {
                    return FULL;
                }
                kept.add(holders);
                return kept.size();
            case "back":
                if (kept.isEmpty()) {
                    return NO;
                }
                holders = kept.remove(kept.size() - 1);
                return kept.size();
            case "count":
                int[] counts = {room.kinds.size(), room.readers.size(), text.length(), Integer.bitCount(holders), kept.size()};
                return in(n[0], 0, 4) ? counts[n[0]] : BAD;
            default:
                return dueOfRoom(call, n);
        }
    }

    private long write() {
        if (!in(bytes, 1, 8)) {
            return BAD;
        }
        if (text.length() + bytes > 400) {
            coming = "";
            return FULL;
        }
        for (int k = bytes - 1; k >= 0; k--) {
            text.append((char) (value >> 8 * k & 255));
        }
        return text.length();
    }

    private long lay() {
        String told = text.toString();
        if (Model.fault(told) != NONE || !told.contains("s") || !told.contains("r")) {
            return NO;
        }
        room = Model.of(told);
        holders = room.everybody();
        kept.clear();
        return room.readers.size();
    }

    private long hold(int i, boolean holds) {
        if (!isReader(i)) {
            return BAD;
        }
        int was = holders >> i & 1;
        holders = holds ? holders | 1 << i : holders & ~(1 << i);
        return was;
    }

    private long dueOfRoom(String call, int[] n) {
        switch (call) {
            case "reader":
                if (!isReader(n[0]) || !in(n[1], 0, 7)) {
                    return BAD;
                }
                Model.Reader one = room.readers.get(n[0]);
                return new int[] {one.a, one.m, one.p, one.q, one.k, one.t, one.b, holders >> n[0] & 1}[n[1]];
            case "kind":
                return in(n[0], 0, room.kinds.size() - 1) ? room.kinds.get(n[0]) : BAD;
            case "booked":
                boolean told = in(n[0], 1, 14) && in(n[1], 1, 14) && in(n[2], 0, 10) && in(n[3], 0, 1);
                return told ? Model.booked(n[0], n[1], n[2])[n[3]].longValueExact() : BAD;
            case "over":
                return in(n[0], 1, 14) && in(n[1], 0, 10) && in(scaled(n[2], 20), 0, 100) ? Model.over(n[0], n[1], scaled(n[2], 20)) : BAD;
            case "dare":
                return in(n[0], 0, 98) && in(scaled(n[1], 5), 1, 99) && in(n[2], 0, 1) ? room.dare(n[0], scaled(n[1], 5))[n[2]] : BAD;
            case "bettered":
                return room.bettered(holders);
            case "porter":
                return in(n[0], 0, 8) ? room.porter(holders, n[0]) : BAD;
            case "card":
                return in(n[0], 0, 8) ? room.card(holders, n[0]) : BAD;
            case "drawn":
                return in(scaled(n[0], 24), 0, 9999) && isRule(n[1]) ? room.drawn(scaled(n[0], 24), n[1], holders) : BAD;
            case "ten":
                return in(scaled(n[0], 24), 0, 9999) && isRule(n[1]) ? room.ten(scaled(n[0], 24), n[1], holders) : BAD;
            default:
                return isRule(n[0]) ? dueOfDay(call, n) : BAD;
        }
    }

    private long dueOfDay(String call, int[] n) {
        int rule = n[0];
        int t = scaled(n[1], 5);
        switch (call) {
            case "rest":
                return in(n[1], 0, room.everybody()) ? room.rest(rule, n[1]) ? 1 : 0 : BAD;
            case "rests":
                return in(n[1], 0, 2) ? room.rests(rule)[n[1]] : BAD;
            case "often":
                return in(n[1], 0, 9999) ? room.often(rule, holders, n[1]) : BAD;
            default:
                break;
        }
        Model.Day day = room.day(rule, holders);
        switch (call) {
            case "seat":
                boolean told = in(t, 0, 399) && in(n[2], 0, room.kinds.size() - 1) && in(n[3], 0, 1);
                return !told ? BAD : n[3] == 0 ? day.sits[t][n[2]] : day.holds[t][n[2]];
            case "does":
                return in(t, 0, 399) && isReader(n[2]) ? day.does[t][n[2]] : BAD;
            case "day":
                int[] all = {day.used, day.empty, Integer.bitCount(day.shut), day.shut, Integer.bitCount(day.thrown), day.thrown};
                return in(n[1], 0, 5) ? all[n[1]] : BAD;
            case "sat":
                return isReader(n[1]) ? day.sat[n[1]] : BAD;
            default:
                return in(n[1], 1, 99) ? day.rounds(n[1]) : BAD;
        }
    }

    private long ask(String call, int[] n) {
        switch (call) {
            case "write": return asked.write(bytes, value);
            case "wipe": return asked.wipe();
            case "fault": return asked.fault();
            case "lay": return asked.lay();
            case "reader": return asked.reader(n[0], n[1]);
            case "kind": return asked.kind(n[0]);
            case "hold": return asked.hold(n[0], n[1] % 2 == 0);
            case "seat": return asked.seat(n[0], scaled(n[1], 5), n[2], n[3]);
            case "does": return asked.does(n[0], scaled(n[1], 5), n[2]);
            case "day": return asked.day(n[0], n[1]);
            case "sat": return asked.sat(n[0], n[1]);
            case "bettered": return asked.bettered();
            case "rest": return asked.rest(n[0], n[1]);
            default: return askMore(call, n);
        }
    }

    private long askMore(String call, int[] n) {
        switch (call) {
            case "rests": return asked.rests(n[0], n[1]);
            case "rounds": return asked.rounds(n[0], n[1]);
            case "often": return asked.often(n[0], n[1]);
            case "porter": return asked.porter(n[0]);
            case "card": return asked.card(n[0]);
            case "booked": return asked.booked(n[0], n[1], n[2], n[3]);
            case "over": return asked.over(n[0], n[1], scaled(n[2], 20));
            case "dare": return asked.dare(n[0], scaled(n[1], 5), n[2]);
            case "drawn": return asked.drawn(scaled(n[0], 24), n[1]);
            case "ten": return asked.ten(scaled(n[0], 24), n[1]);
            case "keep": return asked.keep();
            case "back": return asked.back();
            default: return asked.count(n[0]);
        }
    }
}
