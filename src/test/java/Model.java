import java.math.BigInteger;
import java.util.ArrayList;
import java.util.List;

/** The document once more, written another way and kept whole: what every minute of a day looked like. */
final class Model {
    static final class Reader {
        int a, m, p, q, k, t, b;
    }

    private static final List<String> STATES = List.of("not there", "seeks", "sits", "off", "gone");

    static final class Seat {
        int kind;
        Reader sitter, holder;
        int heldFrom;
    }

    final List<Integer> kinds = new ArrayList<>();
    final List<Reader> readers = new ArrayList<>();
    int c = 30, r = 20, l = 15, w = 20, v = 0;

    /** By a grammar: the text is cut at each ; and every piece must be an item. */
    static int fault(String text) {
        int place = 0;
        int seats = 0, people = 0;
        String n = "([0-9]{1,3})";
        String[] forms = {"s" + n, "r" + n + ("," + n).repeat(6), "c" + n + "," + n, "l" + n, "w" + n, "v" + n};
        int[][] limits = {{0, 3}, {0, 199, 1, 199, 1, 199, 1, 99, 0, 3, 0, 9, 0, 9}, {1, 99, 1, 99}, {1, 99}, {0, 99}, {0, 30}};
        while (place < text.length()) {
            int end = text.indexOf(';', place);
            if (end < 0) {
                return place;
            }
            String piece = text.substring(place, end);
            int form = -1;
            for (int f = 0; f < forms.length; f++) {
                form = piece.matches(forms[f]) ? f : form;
            }
            if (form < 0) {
                return place;
            }
            String[] told = piece.substring(1).split(",");
            for (int k = 0; k < told.length; k++) {
                int value = Integer.parseInt(told[k]);
                if (value < limits[form][2 * k] || value > limits[form][2 * k + 1]) {
                    return place;
                }
            }
            seats += form == 0 ? 1 : 0;
            people += form == 1 ? 1 : 0;
            if (seats > 10 || people > 8) {
                return place;
            }
            place = end + 1;
        }
        return CoatsOnChairs.NONE;
    }

    static Model of(String text) {
        Model model = new Model();
        for (String piece : text.split(";")) {
            String[] told = piece.substring(1).split(",");
            int[] n = new int[told.length];
            for (int k = 0; k < n.length; k++) {
                n[k] = Integer.parseInt(told[k]);
            }
            switch (piece.charAt(0)) {
                case 's' -> model.kinds.add(n[0]);
                case 'r' -> {
                    Reader one = new Reader();
                    one.a = n[0]; one.m = n[1]; one.p = n[2]; one.q = n[3]; one.k = n[4]; one.t = n[5]; one.b = n[6];
                    model.readers.add(one);
                }
                case 'c' -> { model.c = n[0]; model.r = n[1]; }
                case 'l' -> model.l = n[0];
                case 'w' -> model.w = n[0];
                default -> model.v = n[0];
            }
        }
        return model;
    }

    /** A whole day with all its minutes. */
    final class Day {
        final int rule, set, cardFor, porterEvery, z;
        final int[][] sits = new int[400][], holds = new int[400][], does = new int[400][];
        final int[] sat = new int[readers.size()];
        int shut = 0, thrown = 0, used = 0, empty = 0;

        private final List<Seat> seats = new ArrayList<>();
        private final String[] state = new String[readers.size()];
        private final Seat[] own = new Seat[readers.size()];
        private final int[] sought = new int[readers.size()];
        private final int[] offLeft = new int[readers.size()];
        private final boolean[] held = new boolean[readers.size()];

        Day(int rule, int set, int cardFor, int porterEvery, int z) {
            this.rule = rule;
            this.set = set;
            this.cardFor = cardFor;
            this.porterEvery = porterEvery;
            this.z = z;
            for (int kind : kinds) {
                Seat seat = new Seat();
                seat.kind = kind;
                seats.add(seat);
            }
            for (int i = 0; i < state.length; i++) {
                state[i] = "not there";
            }
            for (int t = 0; t < 400; t++) {
                minute(t);
            }
        }

        private int arrival(int i) {
            if (z < 0) {
                return readers.get(i).a;
            }
            BigInteger x = BigInteger.valueOf(7919L * z + 6151L * i + 1);
            BigInteger draw = x.multiply(x).mod(BigInteger.valueOf(65521)).mod(BigInteger.valueOf(v + 1));
            return readers.get(i).a + draw.intValue();
        }

        private void minute(int t) {
            for (int i = 0; i < state.length; i++) {
                if (state[i].equals("off")) {
                    offLeft[i]--;
                    if (offLeft[i] == 0) {
                        comesBack(i);
                    }
                }
            }
            for (Seat seat : seats) {
                boolean cards = rule == 2 && t % porterEvery == 0 && seat.holder != null && t - seat.heldFrom >= cardFor;
                boolean lamps = rule == 3 && seat.holder != null && t - seat.heldFrom >= l;
                if (cards || lamps) {
                    seat.holder = null;
                }
            }
            for (int i = 0; i < state.length; i++) {
                if (t == arrival(i)) {
                    state[i] = "seeks";
                    sought[i] = 0;
                }
            }
            for (int i = 0; i < state.length; i++) {
                if (state[i].equals("seeks")) {
                    seeks(i, t);
                }
            }
            for (int i = 0; i < state.length; i++) {
                if (state[i].equals("sits")) {
                    sits(i, t);
                }
            }
            note(t);
        }

        private void comesBack(int i) {
            if (own[i].holder == readers.get(i)) {
                own[i].holder = null;
                own[i].sitter = readers.get(i);
                state[i] = "sits";
                return;
            }
            state[i] = "seeks";
            sought[i] = 0;
            if (held[i]) {
                thrown |= 1 << i;
            }
        }

        private void seeks(int i, int t) {
            Reader one = readers.get(i);
            Seat best = null;
            for (int liked = 2; liked >= 0 && best == null; liked--) {
                for (Seat seat : seats) {
                    int both = seat.kind & one.k;
                    boolean free = seat.sitter == null && seat.holder == null;
                    if (free && (both & 1) + (both >> 1 & 1) == liked && best == null) {
                        best = seat;
                    }
                }
            }
            if (best == null && rule == 4) {
                for (Seat seat : seats) {
                    if (best == null && seat.holder != null && seat.holder.t <= one.b + (t - seat.heldFrom) / 10) {
                        best = seat;
                    }
                }
            }
            if (best != null) {
                best.holder = null;
                best.sitter = one;
                own[i] = best;
                state[i] = "sits";
            } else if (sought[i] == w) {
                state[i] = "gone";
                shut |= 1 << i;
            } else {
                sought[i]++;
            }
        }

        private void sits(int i, int t) {
            Reader one = readers.get(i);
            sat[i]++;
            if (sat[i] == one.m) {
                state[i] = "gone";
                own[i].sitter = null;
            } else if (sat[i] == one.p) {
                state[i] = "off";
                offLeft[i] = one.q;
                own[i].sitter = null;
                held[i] = rule != 1 && (set >> i & 1) == 1;
                if (held[i]) {
                    own[i].holder = one;
                    own[i].heldFrom = t;
                }
            }
        }

        private void note(int t) {
            sits[t] = new int[seats.size()];
            holds[t] = new int[seats.size()];
            does[t] = new int[state.length];
            for (int s = 0; s < seats.size(); s++) {
                Seat seat = seats.get(s);
                sits[t][s] = seat.sitter == null ? CoatsOnChairs.NONE : readers.indexOf(seat.sitter);
                holds[t][s] = seat.holder == null ? CoatsOnChairs.NONE : readers.indexOf(seat.holder);
                used += seat.sitter == null ? 0 : 1;
                empty += seat.holder == null ? 0 : 1;
            }
            for (int i = 0; i < state.length; i++) {
                does[t][i] = STATES.indexOf(state[i]);
            }
        }

        int rounds(int every) {
            int seen = 0;
            for (int t = 0; t < 400; t++) {
                for (int who : sits[t]) {
                    seen += t % every == 0 && who >= 0 ? every : 0;
                }
            }
            return seen;
        }
    }

    Day day(int rule, int set) {
        return new Day(rule, set, c, r, -1);
    }

    int everybody() {
        return (1 << readers.size()) - 1;
    }

    boolean rest(int rule, int set) {
        Day as = day(rule, set);
        for (int i = 0; i < readers.size(); i++) {
            if (day(rule, set ^ 1 << i).sat[i] > as.sat[i]) {
                return false;
            }
        }
        return true;
    }

    int[] rests(int rule) {
        Day[] days = new Day[everybody() + 1];
        for (int set = 0; set < days.length; set++) {
            days[set] = day(rule, set);
        }
        int[] answer = {0, CoatsOnChairs.NONE, CoatsOnChairs.NONE};
        for (int set = days.length - 1; set >= 0; set--) {
            boolean gains = false;
            for (int i = 0; i < readers.size(); i++) {
                gains |= days[set ^ 1 << i].sat[i] > days[set].sat[i];
            }
            if (!gains) {
                answer[0]++;
                answer[1] = set;
                answer[2] = Math.max(answer[2], set);
            }
        }
        return answer;
    }

    int bettered(int set) {
        int bits = 0;
        Day[] days = new Day[5];
        for (int rule = 0; rule < 5; rule++) {
            days[rule] = day(rule, set);
        }
        for (int one = 0; one < 5; one++) {
            for (int two = 0; two < 5; two++) {
                Day d = days[one], e = days[two];
                int dShut = Integer.bitCount(d.shut), eShut = Integer.bitCount(e.shut);
                int dThrown = Integer.bitCount(d.thrown), eThrown = Integer.bitCount(e.thrown);
                boolean worse = e.used < d.used || eShut > dShut || eThrown > dThrown;
                boolean better = e.used > d.used || eShut < dShut || eThrown < dThrown;
                bits |= !worse && better ? 1 << one : 0;
            }
        }
        return bits;
    }

    int often(int rule, int set, int e) {
        Day d = day(rule, set);
        int greatest = CoatsOnChairs.NONE;
        for (int every = 1; every <= 99; every++) {
            int off = d.rounds(every) - d.used;
            greatest = off <= e && -off <= e ? every : greatest;
        }
        return greatest;
    }

    int porter(int set, int x) {
        int greatest = CoatsOnChairs.NONE;
        for (int every = 1; every <= 99; every++) {
            greatest = Integer.bitCount(new Day(2, set, c, every, -1).shut) <= x ? every : greatest;
        }
        return greatest;
    }

    int card(int set, int x) {
        int greatest = CoatsOnChairs.NONE;
        for (int good = 1; good <= 99; good++) {
            greatest = Integer.bitCount(new Day(2, set, good, r, -1).shut) <= x ? good : greatest;
        }
        return greatest;
    }

    int drawn(int z, int rule, int set) {
        return Integer.bitCount(new Day(rule, set, c, r, z).shut);
    }

    int ten(int z, int rule, int set) {
        int good = 0;
        for (int k = z; k < z + 10; k++) {
            good += drawn(k >= 10000 ? k - 10000 : k, rule, set) == 0 ? 1 : 0;
        }
        return good;
    }

    /** above and below, by going through who comes, one person behind the other. */
    static BigInteger[] booked(int n, int k, int s) {
        BigInteger[] ways = new BigInteger[n + 2];
        java.util.Arrays.fill(ways, BigInteger.ZERO);
        ways[0] = BigInteger.ONE;
        for (int person = 0; person < n; person++) {
            for (int come = n; come >= 0; come--) {
                BigInteger stays = ways[come].multiply(BigInteger.valueOf(10 - s));
                BigInteger comes = come == 0 ? BigInteger.ZERO : ways[come - 1].multiply(BigInteger.valueOf(s));
                ways[come] = stays.add(comes);
            }
        }
        BigInteger above = BigInteger.ZERO;
        for (int come = 0; come <= Math.min(n, k); come++) {
            above = above.add(ways[come]);
        }
        BigInteger below = BigInteger.TEN.pow(n);
        BigInteger common = above.gcd(below);
        return new BigInteger[] {above.divide(common), below.divide(common)};
    }

    static int over(int k, int s, int q) {
        int greatest = CoatsOnChairs.NONE;
        for (int n = k; n <= 14; n++) {
            BigInteger[] odds = booked(n, k, s);
            boolean enough = odds[0].multiply(BigInteger.valueOf(100)).compareTo(odds[1].multiply(BigInteger.valueOf(q))) >= 0;
            greatest = enough ? n : greatest;
        }
        return greatest;
    }

    int[] dare(int m, int n) {
        int back = 0, of = 0;
        for (Reader one : readers) {
            if (one.p < one.m && one.q > m) {
                of++;
                back += one.q - m <= n ? 1 : 0;
            }
        }
        return of == 0 ? new int[] {CoatsOnChairs.NONE, CoatsOnChairs.NONE} : new int[] {back, of};
    }
}
