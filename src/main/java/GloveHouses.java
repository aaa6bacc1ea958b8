import java.util.NoSuchElementException;

/** Two houses too proud to touch, and the stuffed gloves that shake it for them. */
public final class GloveHouses {
    public static final int NONE = -1;
    public static final int HIDDEN = -1000000;

    private static final int MOST_BYTES = 240;
    private static final int MOST_GLOVES = 6;
    private static final int MOST_MATTERS = 5;
    private static final int MOST_WARMTH = 99;
    private static final int MOST_COINS = 999;
    private static final int MOST_RISE = 9;
    private static final int NINE = 9;
    private static final int LAST_DAY = 999;
    private static final int MOST_DAYS = 60;
    private static final int MOST_KNOW_DAYS = 30;
    private static final int MOST_MEETINGS = 8;
    private static final int MOST_GIVEN = 50;
    private static final int MOST_SENT = 4;
    private static final int NOT_THERE = -20;

    private static final int NO_SUCH = 0;
    private static final int BOUNDS = 1;
    private static final int IS_SO = 2;
    private static final int TOO_FEW = 3;
    private static final int TOO_LATE = 4;

    private final Tape tape;
    private final PeaceReader peaceReader;
    private final LawReader lawReader;
    private final Peace told;
    private final Laws laws;
    private final State now;
    private final State apart;
    private final LogBook book;
    private final Acts acts;
    private final State imageState;
    private final LogBook imageBook;
    private final Sightings sightings;
    private final Match match;
    private final Quarrels quarrels;
    private final int[] refused;
    private boolean imaged;
    private int spiteNow;
    private long drawn;

    public GloveHouses() {
        tape = new Tape();
        peaceReader = new PeaceReader(tape);
        lawReader = new LawReader(tape);
        told = new Peace();
        laws = new Laws();
        now = new State(told, laws);
        apart = new State(told, laws);
        book = new LogBook();
        acts = new Acts();
        imageState = new State(told, laws);
        imageBook = new LogBook();
        sightings = new Sightings(told, laws);
        match = new Match(told);
        quarrels = new Quarrels();
        refused = new int[TOO_LATE + 1];
        imaged = false;
        spiteNow = 1;
        drawn = 0;
    }

    public int feed(int a, int b, int c, int d, int e) {
        int more = Tape.bytesOf(a) + Tape.bytesOf(b) + Tape.bytesOf(c) + Tape.bytesOf(d) + Tape.bytesOf(e);
        if (tape.length + more > MOST_BYTES) {
            return NONE;
        }
        tape.put(a);
        tape.put(b);
        tape.put(c);
        tape.put(d);
        tape.put(e);
        return tape.length;
    }

    public boolean end(int n) {
        if (n < 0 || n > tape.length) {
            return false;
        }
        tape.length = n;
        return true;
    }

    public int fault(int sort) {
        if (sort != 0 && sort != 1) {
            return -2;
        }
        boolean reads = sort == 0 ? peaceReader.readsAll() : lawReader.readsAll();
        return reads ? NONE : tape.at;
    }

    public int text(int sort) {
        if (sort == 0 && peaceReader.readsAll()) {
            return takePeace();
        }
        return sort == 1 && !laws.isFull() && lawReader.readsAll() ? takeLaw() : NONE;
    }

    public int rule(int what) {
        if (noPeace() || what < 0 || what > 1) {
            return NONE;
        }
        return what == 0 ? now.pride() : now.coins();
    }

    public int glove(int glove, int what) throws NoSuchElementException {
        if (!told.hasGlove(glove) || what < 0 || what > 5) {
            throw new NoSuchElementException("no such glove, or nothing such of it");
        }
        switch (what) {
            case 0:
                return told.house[glove];
            case 1:
                return now.free(glove);
            case 2:
                return now.stuffed(glove);
            case 3:
                return told.after[glove];
            case 4:
                return now.hasMet(glove) ? 1 : 0;
            default:
                return now.knows(glove);
        }
    }

    public int matter(int matter, int what) {
        if (!told.hasMatter(matter) || what < 0 || what > 2) {
            return -2;
        }
        if (what == 2) {
            return now.signers(matter);
        }
        return what == 0 ? told.weight[matter] : told.need[matter];
    }

    public int warmth(int one, int other) {
        return told.unlike(one, other) ? now.warmthOf(one, other) : NONE;
    }

    public boolean law(int law) {
        if (law < NONE || law >= laws.size) {
            return false;
        }
        laws.holds = law;
        return true;
    }

    public int meets(int one, int other) {
        if (!told.hasGlove(one) || !told.hasGlove(other)) {
            return refuse(NO_SUCH);
        }
        if (!told.unlike(one, other)) {
            return refuse(BOUNDS);
        }
        if (now.hasMet(one) || now.hasMet(other)) {
            return refuse(IS_SO);
        }
        if (now.coins() < 1) {
            return refuse(TOO_FEW);
        }
        acts.keep(now);
        now.pay(1);
        now.meet(one, other);
        return now.warmthOf(one, other);
    }

    public int loosen(int glove) {
        if (!told.hasGlove(glove)) {
            return refuse(NO_SUCH);
        }
        if (now.free(glove) >= NINE) {
            return refuse(IS_SO);
        }
        if (now.coins() < 3) {
            return refuse(TOO_FEW);
        }
        acts.keep(now);
        now.pay(3);
        now.setFree(glove, now.free(glove) + 1);
        return now.free(glove);
    }

    public int stuff(int glove, int v) {
        if (!told.hasGlove(glove)) {
            return refuse(NO_SUCH);
        }
        if (v < 0 || v > NINE) {
            return refuse(BOUNDS);
        }
        int was = now.stuffed(glove);
        if (was == v) {
            return refuse(IS_SO);
        }
        if (now.coins() < 2) {
            return refuse(TOO_FEW);
        }
        acts.keep(now);
        now.pay(2);
        now.setStuffed(glove, v);
        return was;
    }

    public int swallow() {
        if (noPeace()) {
            return refuse(NO_SUCH);
        }
        if (now.pride() == 0) {
            return refuse(IS_SO);
        }
        if (now.coins() < 4) {
            return refuse(TOO_FEW);
        }
        acts.keep(now);
        now.pay(4);
        now.setPride(now.pride() - 1);
        return now.pride();
    }

    public int tear(int matter) {
        if (!told.hasMatter(matter)) {
            return refuse(NO_SUCH);
        }
        if (now.signers(matter) == NONE) {
            return refuse(IS_SO);
        }
        acts.keep(now);
        now.tearUp(matter);
        now.growProud();
        return now.pride();
    }

    public int give(int n) {
        if (noPeace()) {
            return refuse(NO_SUCH);
        }
        if (n < 1 || n > MOST_GIVEN || now.coins() + n > MOST_COINS) {
            return refuse(BOUNDS);
        }
        acts.keep(now);
        now.pay(-n);
        return now.coins();
    }

    public int days(int n) {
        if (noPeace()) {
            return refuse(NO_SUCH);
        }
        if (n < 1 || n > MOST_DAYS) {
            return refuse(BOUNDS);
        }
        if (now.day() + n > LAST_DAY) {
            return refuse(TOO_LATE);
        }
        for (int i = 0; i < n; i++) {
            acts.keep(now);
            passDay();
        }
        return now.day();
    }

    public boolean spite(int v) {
        if (v < 0 || v > NINE || v == spiteNow) {
            return false;
        }
        spiteNow = v;
        return true;
    }

    public int years(int n, long seed) {
        if (noPeace() || n < 1 || n > MOST_DAYS || now.day() + n > LAST_DAY) {
            return NONE;
        }
        drawn = seed;
        for (int i = 0; i < n; i++) {
            acts.keep(now);
            drawMeeting();
            drawMeeting();
            if (draw(10) < spiteNow) {
                now.growProud();
            }
            passDay();
        }
        return now.day();
    }

    public int status(int what) {
        return what < 0 || what > TOO_LATE ? NONE : refused[what];
    }

    public int undo() {
        if (acts.size == 0) {
            return NONE;
        }
        acts.takeBack(now);
        return acts.size;
    }

    public int log(int i, int what) {
        if (i < 0 || i >= LogBook.lengthOn(now.day()) || what < 0 || what > 2) {
            return NONE;
        }
        return book.read(now.day() - 1 - i, what);
    }

    public int rises(int one, int other) {
        return told.unlike(one, other) ? now.riseOf(one, other) : HIDDEN;
    }

    public int later(int one, int other, int n) {
        if (!told.unlike(one, other) || n < 0 || n > MOST_DAYS) {
            return NONE;
        }
        int warmth = now.warmthOf(one, other);
        for (int i = 0; i < n; i++) {
            warmth = now.warmer(one, other, warmth, i);
        }
        return warmth;
    }

    public int soonest(int matter, int what) {
        if (!told.hasMatter(matter) || what < 0 || what > 1) {
            return NONE;
        }
        int pair = NONE;
        int least = MOST_DAYS + 1;
        for (int one = 0; one < told.gloves; one++) {
            for (int other = one + 1; other < told.gloves; other++) {
                int days = told.unlike(one, other) ? daysUntil(one, other, told.need[matter]) : least;
                if (days < least) {
                    least = days;
                    pair = 10 * one + other;
                }
            }
        }
        return what == 0 || pair == NONE ? pair : least;
    }

    public int pairs(int what) {
        if (noPeace() || what < 0 || what > 1) {
            return HIDDEN;
        }
        match.solve(now);
        if (what == 1) {
            return match.bestSum;
        }
        return match.size == 0 ? NONE : match.bestRow;
    }

    public int allKnow() {
        if (noPeace()) {
            return NONE;
        }
        apart.copyFrom(now);
        for (int days = 0; days <= MOST_KNOW_DAYS; days++) {
            if (apart.allKnown()) {
                return days;
            }
            match.solve(apart);
            match.perform(apart);
            if (apart.day() < LAST_DAY) {
                apart.cool();
                apart.dawn();
            }
        }
        return NONE;
    }

    public int seen(int one, int other, int v, boolean is) {
        if (!told.unlike(one, other) || isNoRise(v) || sightings.isFull()) {
            return NONE;
        }
        sightings.add(one, other, v, is);
        return sightings.size;
    }

    public int fits(int glove, int i) {
        if (!told.hasGlove(glove) || i < NONE) {
            return NONE;
        }
        int found = 0;
        for (int free = 0; free <= NINE; free++) {
            if (sightings.allow(glove, free)) {
                if (found == i) {
                    return free;
                }
                found++;
            }
        }
        return i == NONE ? found : NONE;
    }

    public int ask(int glove, int v) {
        if (!told.hasGlove(glove) || isNoRise(v)) {
            return NONE;
        }
        int fitting = sightings.fitting(glove);
        if (fitting == 0) {
            return NONE;
        }
        int best = NONE;
        int least = NINE + 2;
        for (int other = 0; other < told.gloves; other++) {
            int gap = told.unlike(glove, other) ? sightings.gap(glove, other, v, fitting) : least;
            if (gap < least) {
                least = gap;
                best = other;
            }
        }
        return best;
    }

    public int game(int x, int y, int what) {
        if (noPeace() || x < 0 || x > MOST_SENT || y < 0 || y > MOST_SENT || what < 0 || what > 1) {
            return HIDDEN;
        }
        int first = told.nth(0, x);
        int second = told.nth(1, y);
        return what == 0 ? now.gains(first, second) : now.gains(second, first);
    }

    public int sure(int house) {
        if (noPeace() || house < 0 || house > 1) {
            return HIDDEN;
        }
        int best = NOT_THERE;
        for (int own = 0; own < told.gloves; own++) {
            if (told.house[own] == house) {
                best = Math.max(best, leastGain(own));
            }
        }
        return best;
    }

    public int rests(int i) {
        if (noPeace() || i < NONE) {
            return NONE;
        }
        int found = 0;
        for (int x = 0; x < told.sizeOf(0); x++) {
            for (int y = 0; y < told.sizeOf(1); y++) {
                if (isRest(told.nth(0, x), told.nth(1, y))) {
                    if (found == i) {
                        return 10 * x + y;
                    }
                    found++;
                }
            }
        }
        return i == NONE ? found : NONE;
    }

    public int odds(int matter, int one, int other, int n, int chance) {
        if (!told.hasMatter(matter) || !told.unlike(one, other)) {
            return NONE;
        }
        if (n < 0 || n > MOST_MEETINGS || chance < 0 || chance > 100) {
            return NONE;
        }
        return quarrels.partsWarm(now, 10 * one + other, told.need[matter], n, chance);
    }

    public int shares(int house, int c) {
        if (noPeace() || house < 0 || house > 1 || c < 0 || c > 999) {
            return NONE;
        }
        int all = now.freeOf(0) + now.freeOf(1);
        return all == 0 ? 0 : c * now.freeOf(house) / all;
    }

    public int most(int what) {
        if (noPeace() || what < 0 || what > 8) {
            return NONE;
        }
        switch (what) {
            case 0:
                return now.metBits();
            case 1:
                return now.signedBits();
            case 2:
                return now.warmestPair();
            case 3:
                return now.coldestPair();
            case 4:
                return now.freest();
            case 5:
                return now.stiffest();
            case 6:
                return told.heaviest();
            case 7:
                return now.bound();
            default:
                return now.dueBits();
        }
    }

    public int allies(int glove) {
        if (!told.hasGlove(glove)) {
            return NONE;
        }
        int bits = 0;
        for (int other = 0; other < told.gloves; other++) {
            if (told.unlike(glove, other) && told.sameAim(glove, other) == 1) {
                bits |= 1 << other;
            }
        }
        return bits;
    }

    public int image() {
        if (noPeace()) {
            return NONE;
        }
        imageState.copyFrom(now);
        imageBook.copyFrom(book);
        imaged = true;
        return now.day();
    }

    public int back() {
        if (!imaged) {
            return NONE;
        }
        now.copyFrom(imageState);
        book.copyFrom(imageBook);
        acts.forget();
        return now.day();
    }

    public int count(int what) {
        switch (what) {
            case 0:
                return told.gloves;
            case 1:
                return told.matters;
            case 2:
                return laws.size;
            case 3:
                return tape.length;
            case 4:
                return laws.holds;
            case 5:
                return now.day();
            case 6:
                return now.warmthOfAll();
            case 7:
                return Integer.bitCount(now.metBits());
            case 8:
                return spiteNow;
            case 9:
                return sightings.size;
            case 10:
                return LogBook.lengthOn(now.day());
            case 11:
                return acts.size;
            default:
                return HIDDEN;
        }
    }

    private boolean noPeace() {
        return told.gloves == 0;
    }

    private static boolean isNoRise(int v) {
        return v < -MOST_RISE || v > MOST_RISE;
    }

    private int refuse(int why) {
        refused[why]++;
        return NONE;
    }

    private int takePeace() {
        tape.length = 0;
        told.copyFrom(peaceReader.read);
        now.begin();
        acts.forget();
        sightings.size = 0;
        imaged = false;
        return told.gloves;
    }

    private int takeLaw() {
        tape.length = 0;
        laws.add(lawReader.code, lawReader.size);
        return laws.size - 1;
    }

    private void passDay() {
        now.cool();
        book.write(now.day(), Integer.bitCount(now.metBits()), now.signedToday(), now.warmthOfAll());
        now.dawn();
    }

    private int draw(int j) {
        drawn = drawn * 6364136223846793005L + 1442695040888963407L;
        return j < 1 ? 0 : (int) ((drawn >>> 33) % j);
    }

    private void drawMeeting() {
        int one = draw(told.gloves);
        int other = draw(told.gloves);
        if (told.unlike(one, other) && !now.hasMet(one) && !now.hasMet(other)) {
            now.meet(one, other);
        }
    }

    private int daysUntil(int one, int other, int need) {
        int warmth = now.warmthOf(one, other);
        for (int days = 0; days <= MOST_DAYS; days++) {
            if (warmth >= need) {
                return days;
            }
            warmth = now.warmer(one, other, warmth, days);
        }
        return MOST_DAYS + 1;
    }

    private int leastGain(int own) {
        int least = MOST_RISE;
        for (int theirs = 0; theirs < told.gloves; theirs++) {
            if (told.unlike(own, theirs)) {
                least = Math.min(least, now.gains(own, theirs));
            }
        }
        return least;
    }

    private boolean isRest(int first, int second) {
        int firstHas = now.gains(first, second);
        int secondHas = now.gains(second, first);
        for (int another = 0; another < told.gloves; another++) {
            boolean better = told.house[another] == 0
                ? now.gains(another, second) > firstHas
                : now.gains(another, first) > secondHas;
            if (better) {
                return false;
            }
        }
        return true;
    }

    /** The bytes fed so far, and the place up to which a reader has come. */
    private static final class Tape {
        static final int OUT = -1;

        final int[] bytes = new int[MOST_BYTES];
        int length;
        int at;

        static int bytesOf(int number) {
            int found = 0;
            for (int shift = 24; shift >= 0; shift -= 8) {
                if ((number >>> shift & 255) != 0) {
                    found++;
                }
            }
            return found;
        }

        void put(int number) {
            for (int shift = 24; shift >= 0; shift -= 8) {
                int b = number >>> shift & 255;
                if (b != 0 && length < MOST_BYTES) {
                    bytes[length] = b;
                    length++;
                }
            }
        }

        /** The next sign that is no blank, which the place is then at; OUT behind the last one. */
        int sign() {
            for (; at < length; at++) {
                if (bytes[at] != ' ') {
                    return bytes[at];
                }
            }
            return OUT;
        }

        boolean take(int wanted) {
            if (sign() != wanted) {
                return false;
            }
            at++;
            return true;
        }

        boolean isAtDigit() {
            return at < length && bytes[at] >= '0' && bytes[at] <= '9';
        }

        /** The number that comes next; NONE, with the place at its fault, if there is none such. */
        int number(int mostDigits) {
            if (sign() == OUT) {
                return NONE;
            }
            int value = 0;
            int digits = 0;
            for (; digits < mostDigits && isAtDigit(); digits++) {
                value = value * 10 + bytes[at] - '0';
                at++;
            }
            return digits == 0 || isAtDigit() ? NONE : value;
        }
    }

    /** What a PEACE tells: what it all is at first, and what of it never changes. */
    private static final class Peace {
        int gloves;
        int matters;
        int pride;
        int coins;
        final int[] house = new int[MOST_GLOVES];
        final int[] free = new int[MOST_GLOVES];
        final int[] stuffed = new int[MOST_GLOVES];
        final int[] after = new int[MOST_GLOVES];
        final int[] weight = new int[MOST_MATTERS];
        final int[] need = new int[MOST_MATTERS];

        void copyFrom(Peace other) {
            gloves = other.gloves;
            matters = other.matters;
            pride = other.pride;
            coins = other.coins;
            System.arraycopy(other.house, 0, house, 0, MOST_GLOVES);
            System.arraycopy(other.free, 0, free, 0, MOST_GLOVES);
            System.arraycopy(other.stuffed, 0, stuffed, 0, MOST_GLOVES);
            System.arraycopy(other.after, 0, after, 0, MOST_GLOVES);
            System.arraycopy(other.weight, 0, weight, 0, MOST_MATTERS);
            System.arraycopy(other.need, 0, need, 0, MOST_MATTERS);
        }

        boolean hasGlove(int glove) {
            return glove >= 0 && glove < gloves;
        }

        boolean hasMatter(int matter) {
            return matter >= 0 && matter < matters;
        }

        boolean unlike(int one, int other) {
            return hasGlove(one) && hasGlove(other) && house[one] != house[other];
        }

        int sameAim(int one, int other) {
            return after[one] == after[other] ? 1 : 0;
        }

        int sizeOf(int wanted) {
            int found = 0;
            for (int glove = 0; glove < gloves; glove++) {
                if (house[glove] == wanted) {
                    found++;
                }
            }
            return found;
        }

        /** The GLOVE of a HOUSE with so many lower ones there; NONE if there is none. */
        int nth(int wanted, int lower) {
            int found = 0;
            for (int glove = 0; glove < gloves; glove++) {
                if (house[glove] == wanted) {
                    if (found == lower) {
                        return glove;
                    }
                    found++;
                }
            }
            return NONE;
        }

        int heaviest() {
            int best = NONE;
            int most = -1;
            for (int matter = 0; matter < matters; matter++) {
                if (weight[matter] > most) {
                    most = weight[matter];
                    best = matter;
                }
            }
            return best;
        }
    }

    /** Reads the TAPE as a PEACE; where it can't, the TAPE's place is the FAULT. */
    private static final class PeaceReader {
        private static final int RULES = 0;
        private static final int GLOVE = 1;
        private static final int MATTER = 2;
        private static final int ITEMS = 4;
        // A kind of CLAUSE has four places in each of these rows; no byte of a TAPE is 0.
        private static final char[] LETTERS = {'p', 'k', 0, 0, 'h', 'f', 's', 'a', 'w', 'n', 0, 0};
        private static final int[] MOST = {9, 99, 0, 0, 1, 9, 9, 3, 9, 60, 0, 0};
        private static final int[] USUAL = {4, 20, 0, 0, 0, 4, 3, 0, 3, 10, 0, 0};

        final Peace read = new Peace();
        private final Tape tape;
        private final int[] values = new int[ITEMS];
        private boolean ruled;

        PeaceReader(Tape tape) {
            this.tape = tape;
        }

        boolean readsAll() {
            tape.at = 0;
            ruled = false;
            read.gloves = 0;
            read.matters = 0;
            read.pride = USUAL[0];
            read.coins = USUAL[1];
            for (int clause = 0; clause <= MOST_BYTES; clause++) {
                if (!readsClause()) {
                    return false;
                }
                if (tape.sign() == Tape.OUT) {
                    return read.sizeOf(0) > 0 && read.sizeOf(1) > 0;
                }
                if (!tape.take(';')) {
                    return false;
                }
            }
            return false;
        }

        private boolean readsClause() {
            int kind = kindOf(tape.sign());
            if (kind == NONE || isTooMany(kind)) {
                return false;
            }
            tape.at++;
            if (!readsItems(kind)) {
                return false;
            }
            keep(kind);
            return true;
        }

        private static int kindOf(int sign) {
            if (sign == 's') {
                return RULES;
            }
            if (sign == 'g') {
                return GLOVE;
            }
            return sign == 'm' ? MATTER : NONE;
        }

        private boolean isTooMany(int kind) {
            if (kind == RULES) {
                return ruled;
            }
            return kind == GLOVE ? read.gloves >= MOST_GLOVES : read.matters >= MOST_MATTERS;
        }

        private boolean readsItems(int kind) {
            System.arraycopy(USUAL, kind * ITEMS, values, 0, ITEMS);
            int there = 0;
            for (int item = 0; item <= ITEMS; item++) {
                int sign = tape.sign();
                if (sign == ';' || sign == Tape.OUT) {
                    return true;
                }
                int which = itemOf(kind, sign);
                if (which == NONE || (there >> which & 1) == 1) {
                    return false;
                }
                there |= 1 << which;
                tape.at++;
                if (!readsValue(kind, which)) {
                    return false;
                }
            }
            return false;
        }

        private static int itemOf(int kind, int sign) {
            for (int which = 0; which < ITEMS; which++) {
                if (LETTERS[kind * ITEMS + which] == sign) {
                    return which;
                }
            }
            return NONE;
        }

        private boolean readsValue(int kind, int which) {
            int value = tape.number(2);
            if (value == NONE) {
                return false;
            }
            if (value > MOST[kind * ITEMS + which]) {
                tape.at--;
                return false;
            }
            values[which] = value;
            return true;
        }

        private void keep(int kind) {
            if (kind == RULES) {
                ruled = true;
                read.pride = values[0];
                read.coins = values[1];
            } else if (kind == GLOVE) {
                read.house[read.gloves] = values[0];
                read.free[read.gloves] = values[1];
                read.stuffed[read.gloves] = values[2];
                read.after[read.gloves] = values[3];
                read.gloves++;
            } else {
                read.weight[read.matters] = values[0];
                read.need[read.matters] = values[1];
                read.matters++;
            }
        }
    }

    /** Reads the TAPE as a LAW into steps for a stack; where it can't, the TAPE's place is the FAULT. */
    private static final class LawReader {
        private static final int MOST_DEEP = 6;

        final int[] code = new int[Laws.MOST_STEPS];
        int size;
        private final Tape tape;

        LawReader(Tape tape) {
            this.tape = tape;
        }

        boolean readsAll() {
            tape.at = 0;
            size = 0;
            for (int clause = 0; clause <= MOST_BYTES; clause++) {
                if (!readsClause()) {
                    return false;
                }
                if (tape.sign() == Tape.OUT) {
                    return true;
                }
                if (!tape.take(';')) {
                    return false;
                }
            }
            return false;
        }

        private boolean readsClause() {
            if (!tape.take('y') || !tape.take(':')) {
                return false;
            }
            int sign = tape.sign();
            boolean guarded = sign == '!' || sign == '(';
            if (guarded) {
                if (!readsCondition(0)) {
                    return false;
                }
            } else {
                if (!readsSum(0)) {
                    return false;
                }
                // Only the sign behind this SUM tells whether it began a CONDITION.
                guarded = comparison(tape.sign()) != NONE;
                if (guarded && !(readsComparison(0) && readsMoreUnits(0) && readsMoreTruths(0))) {
                    return false;
                }
            }
            if (guarded && !(tape.take('?') && put(Laws.TEST) && readsSum(0))) {
                return false;
            }
            return put(Laws.DONE);
        }

        private boolean readsCondition(int deep) {
            return readsUnit(deep) && readsMoreUnits(deep) && readsMoreTruths(deep);
        }

        private boolean readsMoreTruths(int deep) {
            for (int more = 0; more < MOST_BYTES && tape.take('|'); more++) {
                if (!readsUnit(deep) || !readsMoreUnits(deep) || !put(Laws.OR)) {
                    return false;
                }
            }
            return true;
        }

        private boolean readsMoreUnits(int deep) {
            for (int more = 0; more < MOST_BYTES && tape.take('&'); more++) {
                if (!readsUnit(deep) || !put(Laws.AND)) {
                    return false;
                }
            }
            return true;
        }

        private boolean readsUnit(int deep) {
            int sign = tape.sign();
            if (sign != '!' && sign != '(') {
                return readsSum(deep) && readsComparison(deep);
            }
            if (deep >= MOST_DEEP) {
                return false;
            }
            tape.at++;
            if (sign == '!') {
                return readsUnit(deep + 1) && put(Laws.NOT);
            }
            return readsCondition(deep + 1) && tape.take(')');
        }

        private static int comparison(int sign) {
            if (sign == '=') {
                return Laws.SAME;
            }
            if (sign == '<') {
                return Laws.BELOW;
            }
            return sign == '>' ? Laws.ABOVE : NONE;
        }

        private boolean readsComparison(int deep) {
            int step = comparison(tape.sign());
            if (step == NONE) {
                return false;
            }
            tape.at++;
            return readsSum(deep) && put(step);
        }

        private boolean readsSum(int deep) {
            if (!readsTerm(deep)) {
                return false;
            }
            for (int more = 0; more < MOST_BYTES; more++) {
                int sign = tape.sign();
                if (sign != '+' && sign != '-') {
                    return true;
                }
                tape.at++;
                if (!readsTerm(deep) || !put(sign == '+' ? Laws.PLUS : Laws.MINUS)) {
                    return false;
                }
            }
            return false;
        }

        private boolean readsTerm(int deep) {
            if (!readsAtom(deep)) {
                return false;
            }
            for (int more = 0; more < MOST_BYTES; more++) {
                int sign = tape.sign();
                if (sign != '*' && sign != '/') {
                    return true;
                }
                tape.at++;
                if (!readsAtom(deep) || !put(sign == '*' ? Laws.TIMES : Laws.OVER)) {
                    return false;
                }
            }
            return false;
        }

        private boolean readsAtom(int deep) {
            int sign = tape.sign();
            if (sign == '[') {
                if (deep >= MOST_DEEP) {
                    return false;
                }
                tape.at++;
                return readsSum(deep + 1) && tape.take(']');
            }
            int letter = Laws.letter(sign);
            if (letter != NONE) {
                tape.at++;
                return put(Laws.FIRST_LETTER - letter);
            }
            int number = tape.number(4);
            return number != NONE && put(number);
        }

        private boolean put(int step) {
            if (size >= Laws.MOST_STEPS) {
                return false;
            }
            code[size] = step;
            size++;
            return true;
        }
    }

    /** The LAWS, as steps for a stack, and by how much WARMTH rises by the one that holds. */
    private static final class Laws {
        // Each step stands for a sign of the text, but for the last DONE.
        static final int MOST_STEPS = MOST_BYTES + 1;
        // Steps from 0 on are numbers; so all the others lie below, NONE left out.
        static final int PLUS = -2;
        static final int MINUS = -3;
        static final int TIMES = -4;
        static final int OVER = -5;
        static final int SAME = -6;
        static final int BELOW = -7;
        static final int ABOVE = -8;
        static final int AND = -9;
        static final int OR = -10;
        static final int NOT = -11;
        static final int TEST = -12;
        static final int DONE = -13;
        static final int FIRST_LETTER = -14;
        private static final int MOST_LAWS = 4;
        private static final int MOST_WORTH = 1000000;
        private static final char[] LETTERS = {'f', 's', 'w', 'a', 'p', 'd'};

        int size;
        int holds = NONE;
        private final int[][] codes = new int[MOST_LAWS][MOST_STEPS];
        private final int[] lengths = new int[MOST_LAWS];
        private final int[] letters = new int[LETTERS.length];
        private final int[] stack = new int[MOST_STEPS];

        static int letter(int sign) {
            for (int i = 0; i < LETTERS.length; i++) {
                if (LETTERS[i] == sign) {
                    return i;
                }
            }
            return NONE;
        }

        boolean isFull() {
            return size >= MOST_LAWS;
        }

        void add(int[] code, int length) {
            if (isFull() || length > MOST_STEPS) {
                return;
            }
            System.arraycopy(code, 0, codes[size], 0, length);
            lengths[size] = length;
            size++;
        }

        /** By how much it rises, by all that the letters of a LAW stand for. */
        int riseBy(int free, int stuffed, int warmth, int same, int pride, int day) {
            int by;
            if (holds == NONE) {
                by = free / 2 + 2 * same - pride / 3 - stuffed / 4;
            } else {
                letters[0] = free;
                letters[1] = stuffed;
                letters[2] = warmth;
                letters[3] = same;
                letters[4] = pride;
                letters[5] = day;
                by = worth(codes[holds], lengths[holds]);
            }
            return Math.max(-MOST_RISE, Math.min(MOST_RISE, by));
        }

        private int worth(int[] code, int length) {
            int top = NONE;
            for (int i = 0; i < length; i++) {
                int step = code[i];
                if (step == DONE) {
                    return stack[0];
                }
                if (step == TEST) {
                    top = NONE;
                    i = stack[0] == 0 ? endOfClause(code, length, i) : i;
                } else if (step >= 0 || step <= FIRST_LETTER) {
                    top++;
                    stack[top] = step >= 0 ? step : letters[FIRST_LETTER - step];
                } else if (step == NOT && top >= 0) {
                    stack[top] = 1 - stack[top];
                } else if (top >= 1) {
                    top--;
                    stack[top] = combine(step, stack[top], stack[top + 1]);
                }
            }
            return 0;
        }

        private static int endOfClause(int[] code, int length, int from) {
            for (int i = from; i < length; i++) {
                if (code[i] == DONE) {
                    return i;
                }
            }
            return length;
        }

        private static int combine(int step, long left, long right) {
            long value;
            switch (step) {
                case PLUS:
                    value = left + right;
                    break;
                case MINUS:
                    value = left - right;
                    break;
                case TIMES:
                    value = left * right;
                    break;
                case OVER:
                    value = right == 0 ? 0 : left / right;
                    break;
                case SAME:
                    return left == right ? 1 : 0;
                case BELOW:
                    return left < right ? 1 : 0;
                case ABOVE:
                    return left > right ? 1 : 0;
                case AND:
                    return left != 0 && right != 0 ? 1 : 0;
                default:
                    return left != 0 || right != 0 ? 1 : 0;
            }
            if (value > MOST_WORTH) {
                return MOST_WORTH;
            }
            return value < -MOST_WORTH ? -MOST_WORTH : (int) value;
        }
    }

    /** All that ACTS change, but for the LOG: one row, so that it is kept and put back at once. */
    private static final class State {
        static final int SIZE = 69;
        // Where in the row; WARMTH stands ahead of all, by 6 times the lower GLOVE and the higher one.
        private static final int FREE = 36;
        private static final int STUFFED = 42;
        private static final int KNOWS = 48;
        private static final int PARTNER = 54;
        private static final int SIGNERS = 60;
        private static final int TODAY = 65;
        private static final int PRIDE = 66;
        private static final int COINS = 67;
        private static final int DAY = 68;

        final int[] cells = new int[SIZE];
        private final Peace told;
        private final Laws laws;

        State(Peace told, Laws laws) {
            this.told = told;
            this.laws = laws;
        }

        void copyFrom(State other) {
            System.arraycopy(other.cells, 0, cells, 0, SIZE);
        }

        void begin() {
            for (int i = 0; i < FREE; i++) {
                cells[i] = 0;
            }
            for (int glove = 0; glove < MOST_GLOVES; glove++) {
                cells[FREE + glove] = told.free[glove];
                cells[STUFFED + glove] = told.stuffed[glove];
                cells[KNOWS + glove] = 1 << glove;
                cells[PARTNER + glove] = NONE;
            }
            for (int matter = 0; matter < MOST_MATTERS; matter++) {
                cells[SIGNERS + matter] = NONE;
            }
            cells[TODAY] = 0;
            cells[PRIDE] = told.pride;
            cells[COINS] = told.coins;
            cells[DAY] = 0;
        }

        int free(int glove) {
            return cells[FREE + glove];
        }

        void setFree(int glove, int v) {
            cells[FREE + glove] = v;
        }

        int stuffed(int glove) {
            return cells[STUFFED + glove];
        }

        void setStuffed(int glove, int v) {
            cells[STUFFED + glove] = v;
        }

        int knows(int glove) {
            return cells[KNOWS + glove];
        }

        boolean hasMet(int glove) {
            return cells[PARTNER + glove] != NONE;
        }

        int signers(int matter) {
            return cells[SIGNERS + matter];
        }

        void tearUp(int matter) {
            cells[SIGNERS + matter] = NONE;
        }

        int signedToday() {
            return cells[TODAY];
        }

        int pride() {
            return cells[PRIDE];
        }

        void setPride(int v) {
            cells[PRIDE] = v;
        }

        void growProud() {
            cells[PRIDE] = Math.min(NINE, cells[PRIDE] + 1);
        }

        int coins() {
            return cells[COINS];
        }

        void pay(int n) {
            cells[COINS] -= n;
        }

        int day() {
            return cells[DAY];
        }

        private static int placeOf(int one, int other) {
            return one < other ? one * MOST_GLOVES + other : other * MOST_GLOVES + one;
        }

        int warmthOf(int one, int other) {
            return cells[placeOf(one, other)];
        }

        int riseOf(int one, int other) {
            return riseAt(one, other, warmthOf(one, other), day());
        }

        private int riseAt(int one, int other, int warmth, int day) {
            return laws.riseBy(free(one) + free(other), stuffed(one) + stuffed(other), warmth,
                told.sameAim(one, other), pride(), day);
        }

        /** WARMTH between two once it has risen from what is given, so many DAYS from now. */
        int warmer(int one, int other, int warmth, int daysOn) {
            int rise = riseAt(one, other, warmth, Math.min(LAST_DAY, day() + daysOn));
            return Math.max(0, Math.min(MOST_WARMTH, warmth + rise));
        }

        void meet(int one, int other) {
            cells[placeOf(one, other)] = warmer(one, other, warmthOf(one, other), 0);
            int both = knows(one) | knows(other);
            cells[KNOWS + one] = both;
            cells[KNOWS + other] = both;
            cells[PARTNER + one] = other;
            cells[PARTNER + other] = one;
            signLowest(one, other);
        }

        private void signLowest(int one, int other) {
            for (int matter = 0; matter < told.matters; matter++) {
                if (signers(matter) == NONE && warmthOf(one, other) >= told.need[matter]) {
                    cells[SIGNERS + matter] = 10 * Math.min(one, other) + Math.max(one, other);
                    cells[TODAY] |= 1 << matter;
                    return;
                }
            }
        }

        /** The end of a DAY, up to what the LOG tells of it. */
        void cool() {
            for (int one = 0; one < told.gloves; one++) {
                for (int other = one + 1; other < told.gloves; other++) {
                    int place = placeOf(one, other);
                    if (cells[PARTNER + one] != other && cells[place] > 0) {
                        cells[place]--;
                    }
                }
            }
            cells[COINS] = Math.min(MOST_COINS, cells[COINS] + 2);
        }

        /** The next DAY, behind what the LOG told of the last one. */
        void dawn() {
            for (int glove = 0; glove < MOST_GLOVES; glove++) {
                cells[PARTNER + glove] = NONE;
            }
            cells[TODAY] = 0;
            cells[DAY]++;
        }

        boolean allKnown() {
            for (int glove = 0; glove < told.gloves; glove++) {
                if (knows(glove) != (1 << told.gloves) - 1) {
                    return false;
                }
            }
            return true;
        }

        /** What a HOUSE has that sends its own against theirs (NONE: one that is not there). */
        int gains(int own, int theirs) {
            if (!told.hasGlove(own)) {
                return NOT_THERE;
            }
            return told.hasGlove(theirs) ? riseOf(own, theirs) - free(own) / 3 : 0;
        }

        int freeOf(int house) {
            int all = 0;
            for (int glove = 0; glove < told.gloves; glove++) {
                if (told.house[glove] == house) {
                    all += free(glove);
                }
            }
            return all;
        }

        int warmthOfAll() {
            int all = 0;
            for (int place = 0; place < FREE; place++) {
                all += cells[place];
            }
            return all;
        }

        int metBits() {
            int bits = 0;
            for (int glove = 0; glove < told.gloves; glove++) {
                if (hasMet(glove)) {
                    bits |= 1 << glove;
                }
            }
            return bits;
        }

        int signedBits() {
            int bits = 0;
            for (int matter = 0; matter < told.matters; matter++) {
                if (signers(matter) != NONE) {
                    bits |= 1 << matter;
                }
            }
            return bits;
        }

        int warmestPair() {
            return pairMost(1);
        }

        int coldestPair() {
            return pairMost(-1);
        }

        private int pairMost(int factor) {
            int best = NONE;
            for (int one = 0; one < told.gloves; one++) {
                for (int other = one + 1; other < told.gloves; other++) {
                    if (told.unlike(one, other)
                        && (best == NONE || factor * (warmthOf(one, other) - warmthOf(best / 10, best % 10)) > 0)) {
                        best = 10 * one + other;
                    }
                }
            }
            return best;
        }

        int freest() {
            return gloveMost(FREE);
        }

        int stiffest() {
            return gloveMost(STUFFED);
        }

        private int gloveMost(int row) {
            int best = 0;
            for (int glove = 1; glove < told.gloves; glove++) {
                if (cells[row + glove] > cells[row + best]) {
                    best = glove;
                }
            }
            return best;
        }

        int bound() {
            int all = 0;
            for (int matter = 0; matter < told.matters; matter++) {
                if (signers(matter) != NONE) {
                    all += told.weight[matter];
                }
            }
            return all;
        }

        int dueBits() {
            int pair = warmestPair();
            int most = pair == NONE ? NONE : warmthOf(pair / 10, pair % 10);
            int bits = 0;
            for (int matter = 0; matter < told.matters; matter++) {
                if (signers(matter) == NONE && most >= told.need[matter]) {
                    bits |= 1 << matter;
                }
            }
            return bits;
        }
    }

    /** The LOG, a row for each DAY, going round; each DAY adds one, so the DAY tells how long it is. */
    private static final class LogBook {
        private static final int TOLD = 60;
        // The 60 that are told and 40 more that come back as DAYS are undone, up to a power of two.
        private static final int KEPT = 128;
        private static final int WIDTH = 3;

        private final int[] rows = new int[KEPT * WIDTH];

        static int lengthOn(int day) {
            return Math.min(TOLD, day);
        }

        void write(int day, int met, int signed, int warmth) {
            int row = (day & KEPT - 1) * WIDTH;
            rows[row] = met;
            rows[row + 1] = signed;
            rows[row + 2] = warmth;
        }

        int read(int day, int what) {
            return rows[(day & KEPT - 1) * WIDTH + what];
        }

        void copyFrom(LogBook other) {
            System.arraycopy(other.rows, 0, rows, 0, KEPT * WIDTH);
        }
    }

    /** What was ahead of each of the latest ACTS, going round. */
    private static final class Acts {
        private static final int KEPT = 40;

        int size;
        private int next;
        private final int[] rows = new int[KEPT * State.SIZE];

        void keep(State state) {
            System.arraycopy(state.cells, 0, rows, next * State.SIZE, State.SIZE);
            next = (next + 1) % KEPT;
            size = Math.min(KEPT, size + 1);
        }

        void takeBack(State state) {
            next = (next + KEPT - 1) % KEPT;
            size--;
            System.arraycopy(rows, next * State.SIZE, state.cells, 0, State.SIZE);
        }

        void forget() {
            size = 0;
        }
    }

    /** What was SEEN, and how FREE that leaves a GLOVE. */
    private static final class Sightings {
        private static final int MOST = 10;

        int size;
        private final int[] ones = new int[MOST];
        private final int[] others = new int[MOST];
        private final int[] bounds = new int[MOST];
        private final boolean[] reached = new boolean[MOST];
        private final Peace told;
        private final Laws laws;

        Sightings(Peace told, Laws laws) {
            this.told = told;
            this.laws = laws;
        }

        boolean isFull() {
            return size >= MOST;
        }

        void add(int one, int other, int v, boolean is) {
            ones[size] = one;
            others[size] = other;
            bounds[size] = v;
            reached[size] = is;
            size++;
        }

        /** Whether it would rise by v or more, as told, were the GLOVE so FREE. */
        private boolean reaches(int glove, int free, int other, int v) {
            return v <= laws.riseBy(free + told.free[other], told.stuffed[glove] + told.stuffed[other], 0,
                told.sameAim(glove, other), told.pride, 0);
        }

        boolean allow(int glove, int free) {
            for (int i = 0; i < size; i++) {
                if (ones[i] == glove || others[i] == glove) {
                    int other = ones[i] == glove ? others[i] : ones[i];
                    if (reaches(glove, free, other, bounds[i]) != reached[i]) {
                        return false;
                    }
                }
            }
            return true;
        }

        /** How FREE it may be, as bits. */
        int fitting(int glove) {
            int bits = 0;
            for (int free = 0; free <= NINE; free++) {
                if (allow(glove, free)) {
                    bits |= 1 << free;
                }
            }
            return bits;
        }

        /** How far apart in number v or more and less are, among how FREE it may be. */
        int gap(int glove, int other, int v, int fitting) {
            int gap = 0;
            for (int free = 0; free <= NINE; free++) {
                if ((fitting >> free & 1) == 1) {
                    gap += reaches(glove, free, other, v) ? 1 : -1;
                }
            }
            return Math.abs(gap);
        }
    }

    /** The MATCH of a DAY. */
    private static final class Match {
        private static final int NOBODY = 9;

        int size;
        int bestSum;
        int bestRow;
        private final int[] unmet = new int[MOST_GLOVES];
        private final int[] rise = new int[MOST_GLOVES * MOST_GLOVES];
        private final Peace told;
        private boolean found;

        Match(Peace told) {
            this.told = told;
        }

        void solve(State state) {
            size = 0;
            for (int one = 0; one < told.gloves; one++) {
                if (told.house[one] == 0 && !state.hasMet(one)) {
                    unmet[size] = one;
                    size++;
                    for (int other = 0; other < told.gloves; other++) {
                        rise[one * MOST_GLOVES + other] = told.unlike(one, other) ? state.riseOf(one, other) : 0;
                    }
                }
            }
            found = false;
            search(0, state.metBits(), 0, 0);
        }

        /** Rows come rising, so that of several best ones the first, the least, stays. */
        private void search(int place, int taken, int row, int sum) {
            if (place >= size || place >= MOST_GLOVES) {
                if (!found || sum > bestSum) {
                    found = true;
                    bestSum = sum;
                    bestRow = row;
                }
                return;
            }
            for (int other = 0; other < told.gloves; other++) {
                if (told.house[other] == 1 && (taken >> other & 1) == 0) {
                    search(place + 1, taken | 1 << other, row * 10 + other,
                        sum + rise[unmet[place] * MOST_GLOVES + other]);
                }
            }
            search(place + 1, taken, row * 10 + NOBODY, sum);
        }

        /** From the row's end on: no two of the meetings have a GLOVE in common, so it is all one. */
        void perform(State state) {
            int row = bestRow;
            for (int place = size - 1; place >= 0; place--) {
                if (told.unlike(unmet[place], row % 10)) {
                    state.meet(unmet[place], row % 10);
                }
                row /= 10;
            }
        }
    }

    /** The ODDS of two who may quarrel. */
    private static final class Quarrels {
        private static final int ALL_PARTS = 1000000000;

        private State state;
        private int pair;
        private int need;
        private int meetings;
        private int chance;

        int partsWarm(State state, int pair, int need, int meetings, int chance) {
            this.state = state;
            this.pair = pair;
            this.need = need;
            this.meetings = meetings;
            this.chance = chance;
            return split(ALL_PARTS, state.warmthOf(pair / 10, pair % 10), 0);
        }

        /** Of parts that have come so far, those by which it gets warm enough behind a meeting to come. */
        private int split(int parts, int warmth, int done) {
            if (done >= meetings || done >= MOST_MEETINGS || parts == 0) {
                return 0;
            }
            int quarrel = (int) ((long) parts * chance / 100);
            int risen = state.warmer(pair / 10, pair % 10, warmth, done);
            return behind(quarrel, warmth / 2, done + 1) + behind(parts - quarrel, risen, done + 1);
        }

        private int behind(int parts, int warmth, int done) {
            return warmth >= need ? parts : split(parts, warmth, done);
        }
    }
}
