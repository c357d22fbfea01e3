import java.util.Arrays;

/** A reading room whose seats are held by things left behind; the promises stand in DOC.md. */
public final class CoatsOnChairs {
    public static final int BAD = -1, NO = -2, FULL = -3, NONE = -4;

    private static final int MOST_BYTES = 400, MOST_SEATS = 10, MOST_READERS = 8, MOST_KEPT = 2;
    private static final int MINUTES = 400;
    private static final int RULES = 5, NOBODY_HOLDS = 1, CARDS = 2, LAMPS = 3, DARING = 4;
    private static final int NOBODY = -1;
    private static final int READER_NUMBERS = 7;
    private static final int COMES = 0, WANTS = 1, GOES_OFF = 2, AWAY = 3, LIKES = 4, THING = 5, BOLD = 6, HOLDER = 7;
    private static final int MOST_EVERY = 99, MOST_OFF = 9999, MOST_BOOKED = 14, MOST_DRAW = 9999;
    private static final int[] FIRST_READER = {0, 60, 30, 10, 0, 5, 5};

    private final Text text;
    private final Scan scan;
    private final Day today;
    private final Game game;
    private final int[] usedBy;
    private final int[] shutOutBy;
    private final int[] thrownOutBy;
    private final int[] kept;
    private int keptCount;
    private int holders;
    private Room laid;
    private Room draft;

    public CoatsOnChairs() {
        text = new Text();
        scan = new Scan(text);
        laid = new Room();
        laid.addSeat(0);
        laid.addReader(FIRST_READER);
        draft = new Room();
        today = new Day(laid);
        game = new Game(today, laid);
        usedBy = new int[RULES];
        shutOutBy = new int[RULES];
        thrownOutBy = new int[RULES];
        kept = new int[MOST_KEPT];
        keptCount = 0;
        holders = laid.everybody();
    }

    // ---- rooms

    public int write(int n, long v) {
        if (!within(n, 1, 8)) {
            return BAD;
        }
        return text.append(n, v) ? text.length() : FULL;
    }

    public int wipe() {
        int was = text.length();
        text.clear();
        return was;
    }

    public int fault() {
        return scan.readInto(draft);
    }

    public int lay() {
        if (scan.readInto(draft) != NONE || draft.seatCount() == 0 || draft.readerCount() == 0) {
            return NO;
        }
        Room old = laid;
        laid = draft;
        draft = old;
        game.forget(laid);
        holders = laid.everybody();
        keptCount = 0;
        return laid.readerCount();
    }

    public int reader(int i, int what) {
        if (!isReader(i) || !within(what, COMES, HOLDER)) {
            return BAD;
        }
        return what == HOLDER ? holders >> i & 1 : laid.number(i, what);
    }

    public int kind(int s) {
        return isSeat(s) ? laid.kindOf(s) : BAD;
    }

    public int hold(int i, boolean holds) {
        if (!isReader(i)) {
            return BAD;
        }
        int was = holders >> i & 1;
        holders = holds ? holders | 1 << i : holders & ~(1 << i);
        return was;
    }

    // ---- a day

    public int seat(int rule, int t, int s, int what) {
        if (!isRule(rule) || !within(t, 0, MINUTES - 1) || !isSeat(s) || !within(what, 0, 1)) {
            return BAD;
        }
        today.open(laid, rule, holders);
        today.runTo(t);
        int who = what == 0 ? today.sitterOf(s) : today.holderOf(s);
        return who == NOBODY ? NONE : who;
    }

    public int does(int rule, int t, int i) {
        if (!isRule(rule) || !within(t, 0, MINUTES - 1) || !isReader(i)) {
            return BAD;
        }
        today.open(laid, rule, holders);
        today.runTo(t);
        return today.stateOf(i);
    }

    public int day(int rule, int what) {
        if (!isRule(rule) || !within(what, 0, 5)) {
            return BAD;
        }
        runWhole(rule);
        switch (what) {
            case 0: return today.used();
            case 1: return today.empty();
            case 2: return Integer.bitCount(today.shutOut());
            case 3: return today.shutOut();
            case 4: return Integer.bitCount(today.thrownOut());
            default: return today.thrownOut();
        }
    }

    public int sat(int rule, int i) {
        if (!isRule(rule) || !isReader(i)) {
            return BAD;
        }
        runWhole(rule);
        return today.minutesOf(i);
    }

    public int bettered() {
        for (int rule = 0; rule < RULES; rule++) {
            runWhole(rule);
            usedBy[rule] = today.used();
            shutOutBy[rule] = Integer.bitCount(today.shutOut());
            thrownOutBy[rule] = Integer.bitCount(today.thrownOut());
        }
        int bits = 0;
        for (int worse = 0; worse < RULES; worse++) {
            for (int rule = 0; rule < RULES; rule++) {
                bits |= betters(rule, worse) ? 1 << worse : 0;
            }
        }
        return bits;
    }

    // ---- holding

    public int rest(int rule, int set) {
        if (!isRule(rule) || !within(set, 0, laid.everybody())) {
            return BAD;
        }
        game.playBy(rule);
        return game.isRest(set) ? 1 : 0;
    }

    public int rests(int rule, int what) {
        if (!isRule(rule) || !within(what, 0, 2)) {
            return BAD;
        }
        game.playBy(rule);
        int found = 0;
        int least = NONE;
        int greatest = NONE;
        for (int set = 0; set <= laid.everybody(); set++) {
            if (game.isRest(set)) {
                found++;
                least = least == NONE ? set : least;
                greatest = set;
            }
        }
        return what == 0 ? found : what == 1 ? least : greatest;
    }

    // ---- rounds

    public int rounds(int rule, int r) {
        if (!isRule(rule) || !within(r, 1, MOST_EVERY)) {
            return BAD;
        }
        runWhole(rule);
        return today.seenEvery(r);
    }

    public int often(int rule, int e) {
        if (!isRule(rule) || !within(e, 0, MOST_OFF)) {
            return BAD;
        }
        runWhole(rule);
        int used = today.used();
        for (int r = MOST_EVERY; r >= 1; r--) {
            if (Math.abs(today.seenEvery(r) - used) <= e) {
                return r;
            }
        }
        return NONE;
    }

    public int porter(int x) {
        if (!within(x, 0, MOST_READERS)) {
            return BAD;
        }
        for (int r = MOST_EVERY; r >= 1; r--) {
            if (shutOutByCards(laid.cardMinutes(), r) <= x) {
                return r;
            }
        }
        return NONE;
    }

    public int card(int x) {
        if (!within(x, 0, MOST_READERS)) {
            return BAD;
        }
        for (int c = MOST_EVERY; c >= 1; c--) {
            if (shutOutByCards(c, laid.porterMinutes()) <= x) {
                return c;
            }
        }
        return NONE;
    }

    // ---- odds

    public long booked(int n, int k, int s, int part) {
        if (!within(n, 1, MOST_BOOKED) || !within(k, 1, MOST_BOOKED) || !within(s, 0, 10) || !within(part, 0, 1)) {
            return BAD;
        }
        long above = Odds.noMoreThan(n, k, s);
        long below = Odds.power(10, n);
        long divisor = Odds.commonDivisor(above, below);
        if (divisor < 1) {
            return BAD;
        }
        return (part == 0 ? above : below) / divisor;
    }

    public int over(int k, int s, int q) {
        if (!within(k, 1, MOST_BOOKED) || !within(s, 0, 10) || !within(q, 0, 100)) {
            return BAD;
        }
        for (int n = MOST_BOOKED; n >= k; n--) {
            if (Odds.noMoreThan(n, k, s) * 100 >= Odds.power(10, n) * q) {
                return n;
            }
        }
        return NONE;
    }

    public int dare(int m, int n, int what) {
        if (!within(m, 0, 98) || !within(n, 1, 99) || !within(what, 0, 1)) {
            return BAD;
        }
        int longer = 0;
        int soonBack = 0;
        for (int i = 0; i < laid.readerCount(); i++) {
            int away = laid.number(i, AWAY);
            if (laid.goesOff(i) && away > m) {
                longer++;
                soonBack += away <= m + n ? 1 : 0;
            }
        }
        if (longer == 0) {
            return NONE;
        }
        return what == 0 ? soonBack : longer;
    }

    public int drawn(int z, int rule) {
        if (!within(z, 0, MOST_DRAW) || !isRule(rule)) {
            return BAD;
        }
        return shutOutByDraw(z, rule);
    }

    public int ten(int z, int rule) {
        if (!within(z, 0, MOST_DRAW) || !isRule(rule)) {
            return BAD;
        }
        int good = 0;
        for (int k = 0; k < 10; k++) {
            good += shutOutByDraw((z + k) % (MOST_DRAW + 1), rule) == 0 ? 1 : 0;
        }
        return good;
    }

    public int keep() {
        if (keptCount < 0 || keptCount >= kept.length) {
            return FULL;
        }
        kept[keptCount] = holders;
        keptCount++;
        return keptCount;
    }

    public int back() {
        if (keptCount < 1 || keptCount > kept.length) {
            return NO;
        }
        keptCount--;
        holders = kept[keptCount];
        return keptCount;
    }

    public int count(int what) {
        switch (what) {
            case 0: return laid.seatCount();
            case 1: return laid.readerCount();
            case 2: return text.length();
            case 3: return Integer.bitCount(holders);
            case 4: return keptCount;
            default: return BAD;
        }
    }

    private boolean betters(int rule, int worse) {
        int used = usedBy[rule] - usedBy[worse];
        int shutOut = shutOutBy[worse] - shutOutBy[rule];
        int thrownOut = thrownOutBy[worse] - thrownOutBy[rule];
        return used >= 0 && shutOut >= 0 && thrownOut >= 0 && used + shutOut + thrownOut > 0;
    }

    private void runWhole(int rule) {
        today.open(laid, rule, holders);
        today.runTo(MINUTES - 1);
    }

    private int shutOutByCards(int cardMinutes, int porterMinutes) {
        today.open(laid, CARDS, holders);
        today.useCards(cardMinutes, porterMinutes);
        today.runTo(MINUTES - 1);
        return Integer.bitCount(today.shutOut());
    }

    private int shutOutByDraw(int z, int rule) {
        today.open(laid, rule, holders);
        today.comeLater(z);
        today.runTo(MINUTES - 1);
        return Integer.bitCount(today.shutOut());
    }

    private boolean isReader(int i) {
        return within(i, 0, laid.readerCount() - 1);
    }

    private boolean isSeat(int s) {
        return within(s, 0, laid.seatCount() - 1);
    }

    private static boolean isRule(int rule) {
        return within(rule, 0, RULES - 1);
    }

    private static boolean within(int number, int least, int most) {
        return least <= number && number <= most;
    }

    /** THE TEXT: bytes as they were written. */
    private static final class Text {
        private final byte[] bytes;
        private int length;

        Text() {
            bytes = new byte[MOST_BYTES];
            length = 0;
        }

        int length() {
            return length;
        }

        void clear() {
            length = 0;
        }

        boolean append(int n, long v) {
            if (n < 0 || n > bytes.length - length) {
                return false;
            }
            for (int k = n - 1; k >= 0; k--) {
                bytes[length] = (byte) (v >>> 8 * k);
                length++;
            }
            return true;
        }

        int byteAt(int place) {
            return place >= 0 && place < length ? bytes[place] & 255 : NONE;
        }
    }

    /** Reads THE TEXT, item by item, into a room. */
    private static final class Scan {
        private static final int SEAT = 0, READER = 1, CARD = 2, LAMP = 3, ROUND = 4, LATER = 5;
        // The limits of an item's numbers stand from FIRST[item] on, to FIRST[item + 1].
        private static final int[] FIRST = {0, 1, 8, 10, 11, 12, 13};
        private static final int[] LEAST = {0, 0, 1, 1, 1, 0, 0, 0, 1, 1, 1, 0, 0};
        private static final int[] MOST = {3, 199, 199, 199, 99, 3, 9, 9, 99, 99, 99, 99, 30};
        private static final int MOST_FIGURES = 3;

        private final Text text;
        private final int[] numbers;
        private int at;

        Scan(Text text) {
            this.text = text;
            numbers = new int[READER_NUMBERS];
            at = 0;
        }

        /** The place of the first item at fault, or NONE; the room is then as the text tells. */
        int readInto(Room room) {
            room.clear();
            at = 0;
            for (int items = 0; items < MOST_BYTES && at < text.length(); items++) {
                int start = at;
                int item = itemOf(text.byteAt(at));
                at++;
                if (item == NONE || !readNumbers(item) || !put(item, room)) {
                    return start;
                }
            }
            return NONE;
        }

        private static int itemOf(int letter) {
            switch (letter) {
                case 's': return SEAT;
                case 'r': return READER;
                case 'c': return CARD;
                case 'l': return LAMP;
                case 'w': return ROUND;
                case 'v': return LATER;
                default: return NONE;
            }
        }

        private boolean readNumbers(int item) {
            if (item < 0 || item + 1 >= FIRST.length) {
                return false;
            }
            int first = FIRST[item];
            int many = FIRST[item + 1] - first;
            for (int k = 0; k < many && k < numbers.length; k++) {
                int number = readFigures();
                if (number < LEAST[first + k] || number > MOST[first + k]) {
                    return false;
                }
                numbers[k] = number;
                if (text.byteAt(at) != (k + 1 < many ? ',' : ';')) {
                    return false;
                }
                at++;
            }
            return true;
        }

        /** A number of one to three figures; NONE, which is below every limit, if no figure stands here. */
        private int readFigures() {
            int number = NONE;
            for (int k = 0; k < MOST_FIGURES; k++) {
                int figure = text.byteAt(at);
                if (figure < '0' || figure > '9') {
                    break;
                }
                number = (k == 0 ? 0 : number * 10) + figure - '0';
                at++;
            }
            return number;
        }

        private boolean put(int item, Room room) {
            switch (item) {
                case SEAT: return room.addSeat(numbers[0]);
                case READER: return room.addReader(numbers);
                case CARD: return room.setCards(numbers[0], numbers[1]);
                case LAMP: return room.setLamps(numbers[0]);
                case ROUND: return room.setSeeking(numbers[0]);
                default: return room.setLater(numbers[0]);
            }
        }
    }

    /** What a text tells: seats, readers and the numbers of the rules. */
    private static final class Room {
        private final int[] kinds;
        private final int[] numbers;
        private int seats;
        private int readers;
        private int cardMinutes;
        private int porterMinutes;
        private int lampMinutes;
        private int seekMinutes;
        private int laterMinutes;

        Room() {
            kinds = new int[MOST_SEATS];
            numbers = new int[MOST_READERS * READER_NUMBERS];
            clear();
        }

        void clear() {
            seats = 0;
            readers = 0;
            cardMinutes = 30;
            porterMinutes = 20;
            lampMinutes = 15;
            seekMinutes = 20;
            laterMinutes = 0;
        }

        boolean addSeat(int kind) {
            if (seats >= kinds.length) {
                return false;
            }
            kinds[seats] = kind;
            seats++;
            return true;
        }

        boolean addReader(int[] told) {
            if (readers >= MOST_READERS || told.length < READER_NUMBERS) {
                return false;
            }
            System.arraycopy(told, 0, numbers, readers * READER_NUMBERS, READER_NUMBERS);
            readers++;
            return true;
        }

        boolean setCards(int minutes, int porter) {
            cardMinutes = minutes;
            porterMinutes = porter;
            return true;
        }

        boolean setLamps(int minutes) {
            lampMinutes = minutes;
            return true;
        }

        boolean setSeeking(int minutes) {
            seekMinutes = minutes;
            return true;
        }

        boolean setLater(int minutes) {
            laterMinutes = minutes;
            return true;
        }

        int seatCount() {
            return seats;
        }

        int readerCount() {
            return readers;
        }

        int cardMinutes() {
            return cardMinutes;
        }

        int porterMinutes() {
            return porterMinutes;
        }

        int lampMinutes() {
            return lampMinutes;
        }

        int seekMinutes() {
            return seekMinutes;
        }

        int laterMinutes() {
            return laterMinutes;
        }

        int everybody() {
            return (1 << readers) - 1;
        }

        int kindOf(int s) {
            return s >= 0 && s < seats ? kinds[s] : 0;
        }

        int number(int i, int what) {
            boolean told = i >= 0 && i < readers && what >= 0 && what < READER_NUMBERS;
            return told ? numbers[i * READER_NUMBERS + what] : 0;
        }

        boolean goesOff(int i) {
            return number(i, GOES_OFF) < number(i, WANTS);
        }
    }

    /** One day by one rule, minute behind minute; the same rows serve every day. */
    private static final class Day {
        private static final int NOT_THERE = 0, SEEKS = 1, SITS = 2, OFF = 3, GONE = 4;

        private final int[] states;
        private final int[] places;
        // The minute in which a reader began to seek, or went off.
        private final int[] since;
        private final int[] minutesSat;
        private final int[] arrivals;
        private final int[] sitters;
        private final int[] seatHolders;
        private final int[] sitting;
        private Room room;
        private int readers;
        private int seats;
        private int rule;
        private int holders;
        private int cardMinutes;
        private int porterMinutes;
        private int ran;
        private int left;
        private int empty;
        private int shutOut;
        private int thrownOut;

        Day(Room room) {
            states = new int[MOST_READERS];
            places = new int[MOST_READERS];
            since = new int[MOST_READERS];
            minutesSat = new int[MOST_READERS];
            arrivals = new int[MOST_READERS];
            sitters = new int[MOST_SEATS];
            seatHolders = new int[MOST_SEATS];
            sitting = new int[MINUTES];
            this.room = room;
        }

        /** Ahead of minute 0: nobody is there. */
        void open(Room room, int rule, int holders) {
            this.room = room;
            readers = Math.min(room.readerCount(), MOST_READERS);
            seats = Math.min(room.seatCount(), MOST_SEATS);
            this.rule = rule;
            this.holders = rule == NOBODY_HOLDS ? 0 : holders;
            useCards(room.cardMinutes(), room.porterMinutes());
            for (int i = 0; i < MOST_READERS; i++) {
                states[i] = NOT_THERE;
                places[i] = NOBODY;
                since[i] = 0;
                minutesSat[i] = 0;
                arrivals[i] = room.number(i, COMES);
            }
            Arrays.fill(sitters, NOBODY);
            Arrays.fill(seatHolders, NOBODY);
            ran = 0;
            left = readers;
            empty = 0;
            shutOut = 0;
            thrownOut = 0;
        }

        void useCards(int cardMinutes, int porterMinutes) {
            this.cardMinutes = cardMinutes;
            this.porterMinutes = porterMinutes;
        }

        void comeLater(int z) {
            int span = room.laterMinutes() + 1;
            for (int i = 0; i < readers && span > 0; i++) {
                long x = 7919L * z + 6151L * i + 1;
                arrivals[i] += (int) (x * x % 65521 % span);
            }
        }

        /** Minutes up to the last one told; when all are gone nothing changes any more. */
        void runTo(int last) {
            for (int t = ran; t <= last && t < MINUTES && left > 0; t++) {
                comeBack(t);
                freeHeld(t);
                seekSeats(t);
                sitOn(t);
                countSeats(t);
                ran = t + 1;
            }
        }

        private void comeBack(int t) {
            for (int i = 0; i < readers; i++) {
                if (states[i] != OFF || t - since[i] != room.number(i, AWAY)) {
                    continue;
                }
                int s = places[i];
                if (holderOf(s) == i) {
                    sitDown(i, s);
                } else {
                    states[i] = SEEKS;
                    since[i] = t;
                    thrownOut |= holders & 1 << i;
                }
            }
        }

        private void freeHeld(int t) {
            boolean porterComes = rule == CARDS && porterMinutes > 0 && t % porterMinutes == 0;
            if (!porterComes && rule != LAMPS) {
                return;
            }
            int limit = porterComes ? cardMinutes : room.lampMinutes();
            for (int s = 0; s < seats; s++) {
                int holder = seatHolders[s];
                if (holder != NOBODY && offFor(holder, t) >= limit) {
                    seatHolders[s] = NOBODY;
                }
            }
        }

        private void seekSeats(int t) {
            for (int i = 0; i < readers; i++) {
                if (states[i] == NOT_THERE && arrivals[i] == t) {
                    states[i] = SEEKS;
                    since[i] = t;
                }
                if (states[i] != SEEKS) {
                    continue;
                }
                int s = freeSeatFor(i);
                if (s == NOBODY && rule == DARING) {
                    s = daredSeatFor(i, t);
                }
                if (s != NOBODY) {
                    sitDown(i, s);
                } else if (t - since[i] >= room.seekMinutes()) {
                    states[i] = GONE;
                    left--;
                    shutOut |= 1 << i;
                }
            }
        }

        private int freeSeatFor(int i) {
            int likes = room.number(i, LIKES);
            int best = NOBODY;
            int most = -1;
            for (int s = 0; s < seats; s++) {
                if (sitters[s] != NOBODY || seatHolders[s] != NOBODY) {
                    continue;
                }
                int has = Integer.bitCount(room.kindOf(s) & likes);
                if (has > most) {
                    best = s;
                    most = has;
                }
            }
            return best;
        }

        private int daredSeatFor(int i, int t) {
            for (int s = 0; s < seats; s++) {
                int holder = seatHolders[s];
                if (holder != NOBODY && room.number(holder, THING) <= room.number(i, BOLD) + offFor(holder, t) / 10) {
                    return s;
                }
            }
            return NOBODY;
        }

        private void sitDown(int i, int s) {
            if (s < 0 || s >= sitters.length) {
                return;
            }
            sitters[s] = i;
            seatHolders[s] = NOBODY;
            places[i] = s;
            states[i] = SITS;
        }

        private void sitOn(int t) {
            for (int i = 0; i < readers; i++) {
                int s = places[i];
                if (states[i] != SITS || s < 0 || s >= sitters.length) {
                    continue;
                }
                minutesSat[i]++;
                if (minutesSat[i] >= room.number(i, WANTS)) {
                    sitters[s] = NOBODY;
                    states[i] = GONE;
                    left--;
                } else if (minutesSat[i] == room.number(i, GOES_OFF)) {
                    sitters[s] = NOBODY;
                    seatHolders[s] = (holders >> i & 1) == 1 ? i : NOBODY;
                    states[i] = OFF;
                    since[i] = t;
                }
            }
        }

        private void countSeats(int t) {
            int sit = 0;
            for (int s = 0; s < seats; s++) {
                sit += sitters[s] != NOBODY ? 1 : 0;
                empty += seatHolders[s] != NOBODY ? 1 : 0;
            }
            sitting[t] = sit;
        }

        /** For so long a holder who is off holds its seat. */
        private int offFor(int holder, int t) {
            return holder >= 0 && holder < since.length ? t - since[holder] : 0;
        }

        int sitterOf(int s) {
            return s >= 0 && s < sitters.length ? sitters[s] : NOBODY;
        }

        int holderOf(int s) {
            return s >= 0 && s < seatHolders.length ? seatHolders[s] : NOBODY;
        }

        int stateOf(int i) {
            return i >= 0 && i < states.length ? states[i] : NOT_THERE;
        }

        int minutesOf(int i) {
            return i >= 0 && i < minutesSat.length ? minutesSat[i] : 0;
        }

        int used() {
            return seenEvery(1);
        }

        int empty() {
            return empty;
        }

        int shutOut() {
            return shutOut;
        }

        int thrownOut() {
            return thrownOut;
        }

        /** What a counter makes of the day who goes round every r minutes; behind the minutes that ran nobody sits. */
        int seenEvery(int r) {
            int seen = 0;
            for (int t = 0; t < ran && r > 0; t += r) {
                seen += sitting[t];
            }
            return seen * r;
        }

        /** How long each has sat, eight bits a reader: nobody sits for more than 199 minutes. */
        long packedMinutes() {
            long packed = 0;
            for (int i = MOST_READERS - 1; i >= 0; i--) {
                packed = packed << 8 | minutesSat[i];
            }
            return packed;
        }
    }

    /** Holding as a game: how long each sits, for every set of holders by one rule. */
    private static final class Game {
        private static final int NO_RULE = -1;
        // No packed minutes look so: a reader's eight bits are 199 at most.
        private static final long UNKNOWN = -1;

        private final Day day;
        private final long[] minutes;
        private Room room;
        private int rule;
        private int mattering;

        Game(Day day, Room room) {
            this.day = day;
            minutes = new long[1 << MOST_READERS];
            this.room = room;
            rule = NO_RULE;
            mattering = 0;
        }

        void forget(Room laid) {
            room = laid;
            rule = NO_RULE;
        }

        /** What is known by this rule stays known until another rule is asked for or a room is laid. */
        void playBy(int rule) {
            if (this.rule == rule) {
                return;
            }
            this.rule = rule;
            Arrays.fill(minutes, UNKNOWN);
            mattering = 0;
            for (int i = 0; i < room.readerCount(); i++) {
                if (rule != NOBODY_HOLDS && room.goesOff(i)) {
                    mattering |= 1 << i;
                }
            }
        }

        boolean isRest(int set) {
            for (int i = 0; i < room.readerCount(); i++) {
                if (minutesIn(set ^ 1 << i, i) > minutesIn(set, i)) {
                    return false;
                }
            }
            return true;
        }

        private int minutesIn(int set, int i) {
            // A set that differs only in readers who never leave a thing gives the same day.
            int same = set & mattering;
            if (same < 0 || same >= minutes.length) {
                return 0;
            }
            if (minutes[same] == UNKNOWN) {
                day.open(room, rule, same);
                day.runTo(MINUTES - 1);
                minutes[same] = day.packedMinutes();
            }
            return (int) (minutes[same] >>> 8 * i) & 255;
        }
    }

    /** Odds of who comes, each in s of ten. */
    private static final class Odds {
        /** Of power(10, n), how often no more than k of n come. */
        static long noMoreThan(int n, int k, int s) {
            long together = 0;
            long ways = 1;
            for (int j = 0; j <= n && j <= k; j++) {
                together += ways * power(s, j) * power(10 - s, n - j);
                ways = ways * (n - j) / (j + 1);
            }
            return together;
        }

        static long power(int base, int exponent) {
            long product = 1;
            for (int k = 0; k < exponent; k++) {
                product *= base;
            }
            return product;
        }

        static long commonDivisor(long a, long b) {
            long greater = a;
            long smaller = b;
            for (int turn = 0; turn < 1000 && smaller > 0; turn++) {
                long rest = greater % smaller;
                greater = smaller;
                smaller = rest;
            }
            return greater;
        }
    }
}
