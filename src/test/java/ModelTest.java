import java.math.BigInteger;
import java.util.Random;

/** Rooms by a fixed draw, every promise beside the model. */
public final class ModelTest {
    private static final Check CHECK = new Check();
    private static final Random DRAW = new Random(20261118);

    public static void main(String[] args) {
        for (int room = 0; room < 300; room++) {
            String text = draw();
            Model model = Model.of(text);
            int set = model.everybody();
            for (int turn = 0; turn < 2; turn++) {
                CoatsOnChairs x = Check.laid(text);
                for (int i = 0; i < model.readers.size(); i++) {
                    x.hold(i, (set >> i & 1) == 1);
                }
                days(text, x, model, set);
                outlook(text, x, model, set);
                set = DRAW.nextInt(model.everybody() + 1);
            }
            if (room % 6 == 0) {
                games(text, Check.laid(text), model);
            }
        }
        faults();
        odds();
        CHECK.end();
    }

    private static int from(int least, int most) {
        return least + DRAW.nextInt(most - least + 1);
    }

    private static String draw() {
        StringBuilder text = new StringBuilder();
        int seats = DRAW.nextInt(4) == 0 ? from(1, 10) : from(1, 4);
        int readers = from(1, 8);
        boolean small = DRAW.nextBoolean();
        for (int k = 0; k < seats; k++) {
            text.append('s').append(from(0, 3)).append(';');
        }
        for (int k = 0; k < readers; k++) {
            int m = small ? from(1, 40) : from(1, 199);
            text.append('r').append(small ? from(0, 40) : from(0, 199)).append(',').append(m).append(',');
            text.append(Math.min(199, from(1, Math.max(2, m * 3 / 2)))).append(',');
            text.append(small ? from(1, 30) : from(1, 99)).append(',').append(from(0, 3)).append(',');
            text.append(from(0, 9)).append(',').append(from(0, 9)).append(';');
        }
        if (DRAW.nextBoolean()) {
            text.append('c').append(from(1, small ? 15 : 99)).append(',').append(from(1, small ? 9 : 99)).append(';');
        }
        if (DRAW.nextBoolean()) {
            text.append('l').append(from(1, small ? 9 : 99)).append(';');
        }
        if (DRAW.nextBoolean()) {
            text.append('w').append(from(0, small ? 9 : 99)).append(';');
        }
        if (DRAW.nextBoolean()) {
            text.append('v').append(from(0, 30)).append(';');
        }
        return text.toString();
    }

    private static void days(String text, CoatsOnChairs x, Model model, int set) {
        for (int rule = 0; rule < 5; rule++) {
            Model.Day day = model.day(rule, set);
            String where = text + " by " + rule + " set " + set + " ";
            CHECK.due(where + "used", x.day(rule, 0), day.used);
            CHECK.due(where + "empty", x.day(rule, 1), day.empty);
            CHECK.due(where + "shut out", x.day(rule, 2), Integer.bitCount(day.shut));
            CHECK.due(where + "whom shut out", x.day(rule, 3), day.shut);
            CHECK.due(where + "thrown out", x.day(rule, 4), Integer.bitCount(day.thrown));
            CHECK.due(where + "whom thrown out", x.day(rule, 5), day.thrown);
            for (int i = 0; i < day.sat.length; i++) {
                CHECK.due(where + "sat " + i, x.sat(rule, i), day.sat[i]);
            }
            for (int k = 0; k < 20; k++) {
                int t = k < 15 ? from(0, 150) : k == 19 ? 399 : from(0, 399);
                int s = from(0, model.kinds.size() - 1);
                int i = from(0, model.readers.size() - 1);
                CHECK.due(where + "seat " + t + " " + s + " 0", x.seat(rule, t, s, 0), day.sits[t][s]);
                CHECK.due(where + "seat " + t + " " + s + " 1", x.seat(rule, t, s, 1), day.holds[t][s]);
                CHECK.due(where + "does " + t + " " + i, x.does(rule, t, i), day.does[t][i]);
            }
            for (int k = 0; k < 5; k++) {
                int r = k == 0 ? 99 : from(1, 99);
                CHECK.due(where + "rounds " + r, x.rounds(rule, r), day.rounds(r));
            }
        }
    }

    private static void outlook(String text, CoatsOnChairs x, Model model, int set) {
        String where = text + " set " + set + " ";
        CHECK.due(where + "bettered", x.bettered(), model.bettered(set));
        CHECK.due(where + "holders", x.count(3), Integer.bitCount(set));
        int rule = from(0, 4);
        int e = DRAW.nextBoolean() ? from(0, 20) : from(0, 9999);
        CHECK.due(where + "often " + rule + " " + e, x.often(rule, e), model.often(rule, set, e));
        if (DRAW.nextInt(4) == 0) {
            int few = from(0, 3);
            CHECK.due(where + "porter " + few, x.porter(few), model.porter(set, few));
            CHECK.due(where + "card " + few, x.card(few), model.card(set, few));
        }
        int z = DRAW.nextInt(4) == 0 ? from(9985, 9999) : from(0, 9999);
        CHECK.due(where + "drawn " + z + " " + rule, x.drawn(z, rule), model.drawn(z, rule, set));
        CHECK.due(where + "ten " + z + " " + rule, x.ten(z, rule), model.ten(z, rule, set));
        int m = from(0, 98), n = from(1, 99);
        int[] dare = model.dare(m, n);
        CHECK.due(where + "dare " + m + " " + n, x.dare(m, n, 0), dare[0]);
        CHECK.due(where + "dare of " + m + " " + n, x.dare(m, n, 1), dare[1]);
    }

    private static void games(String text, CoatsOnChairs x, Model model) {
        for (int rule = 0; rule < 5; rule++) {
            String where = text + " by " + rule + " ";
            for (int k = 0; k < 3; k++) {
                int set = from(0, model.everybody());
                CHECK.due(where + "rest " + set, x.rest(rule, set), model.rest(rule, set) ? 1 : 0);
            }
            int[] rests = model.rests(rule);
            for (int what = 0; what < 3; what++) {
                CHECK.due(where + "rests " + what, x.rests(rule, what), rests[what]);
            }
        }
    }

    /** Good texts with one byte changed, put in or left out. */
    private static void faults() {
        String bytes = "srclwv,;0123456789 \u0000\u00ff";
        for (int k = 0; k < 4000; k++) {
            StringBuilder text = new StringBuilder(draw());
            for (int changes = from(0, 2); changes > 0; changes--) {
                int at = DRAW.nextInt(text.length());
                char sign = bytes.charAt(DRAW.nextInt(bytes.length()));
                switch (DRAW.nextInt(4)) {
                    case 0 -> text.setCharAt(at, sign);
                    case 1 -> text.insert(at, sign);
                    case 2 -> text.deleteCharAt(at);
                    default -> text.setLength(at + 1);
                }
            }
            String told = text.toString();
            CoatsOnChairs x = Check.written(told);
            int fault = Model.fault(told);
            CHECK.due("fault of " + told, x.fault(), fault);
            boolean good = fault == CoatsOnChairs.NONE && told.contains("s") && told.contains("r");
            CHECK.due("lay of " + told, x.lay(), good ? Model.of(told).readers.size() : CoatsOnChairs.NO);
        }
    }

    private static void odds() {
        CoatsOnChairs x = null;
        for (int n = 1; n <= 14; n++) {
            for (int k = 1; k <= 14; k++) {
                x = new CoatsOnChairs();
                for (int s = 0; s <= 10; s++) {
                    BigInteger[] due = Model.booked(n, k, s);
                    CHECK.due("booked " + n + " " + k + " " + s + " 0", x.booked(n, k, s, 0), due[0].longValueExact());
                    CHECK.due("booked " + n + " " + k + " " + s + " 1", x.booked(n, k, s, 1), due[1].longValueExact());
                }
            }
        }
        for (int k = 1; k <= 14; k++) {
            for (int s = 0; s <= 10; s++) {
                x = new CoatsOnChairs();
                for (int q = 0; q <= 100; q += q < 90 ? 7 : 1) {
                    CHECK.due("over " + k + " " + s + " " + q, x.over(k, s, q), Model.over(k, s, q));
                }
            }
        }
    }
}
