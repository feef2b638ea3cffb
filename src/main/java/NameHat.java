import java.util.NoSuchElementException;

/**
 * An island's SURNAMES in a hat, drawn anew by its HOUSES each spring. What each call promises stands
 * in DOC.md; words in capitals are the document's terms.
 */
public final class NameHat {
    public static final int NONE = -1;

    private static final int MOST_SURNAMES = 10;
    private static final int MOST_HOUSES = 8;
    private static final int MOST_PEWS = 4;
    private static final int MOST_SEATS = 8;
    private static final int MOST_NUMBER = 99;
    private static final int MOST_SPRINGS = 24;
    private static final int MOST_SPRINGS_OF_LUCK = 12;
    private static final int MOST_LINES = 30;
    private static final int MOST_PARTS = 999;
    private static final int MOST_GRAVES = 20;
    private static final int MOST_TAPE = 940;
    private static final int MOST_ISLAND = 900;
    private static final int MOST_OTHER_TEXT = 400;
    private static final int BYTES_FED = 20;

    private static final int CURSED = 1;
    private static final int PAWNED = 2;

    private static final int ISLAND_TEXT = 0;
    private static final int ROLL_TEXT = 1;
    private static final int BOOK_TEXT = 2;

    // The tape, and what is promised to outlast a new ISLAND and restore().
    private final Row tape;
    private int tapeSize;
    private int latestFault;
    private final Rings rings;
    private final Seating seating;
    private final Row went;
    private boolean wentOnce;

    // What image() keeps; the draft is what is read or tried before it counts.
    private final State now;
    private final State draft;
    private final State firstImage;
    private final State secondImage;
    private boolean firstKept;
    private boolean secondKept;

    // Made once and used by every call.
    private final Reader reader;
    private final Dealings deals;
    private final long[] ways;

    public NameHat() {
        reader = new Reader();
        tape = reader.tokens.tape;
        draft = reader.draft;
        rings = new Rings();
        seating = new Seating();
        went = new Row(4);
        now = new State();
        firstImage = new State();
        secondImage = new State();
        deals = new Dealings();
        ways = new long[MOST_SPRINGS_OF_LUCK + 1];
    }

    // ==== The tape and its texts

    public int feed(int a, int b, int c, int d, int e) {
        if (tapeSize + BYTES_FED > MOST_TAPE) {
            return NONE;
        }
        feedNumber(a);
        feedNumber(b);
        feedNumber(c);
        feedNumber(d);
        feedNumber(e);
        return tapeSize;
    }

    private void feedNumber(int number) {
        for (int shift = 24; shift >= 0; shift -= 8) {
            tape.put(tapeSize, number >>> shift & 255);
            tapeSize++;
        }
    }

    public boolean end(int n) {
        if (n < 0 || n > tapeSize) {
            return false;
        }
        tapeSize = n;
        return true;
    }

    public int island() {
        draft.clear();
        reader.readText(ISLAND_TEXT, tapeSize, MOST_ISLAND);
        return takeDraft();
    }

    public int fault() {
        return latestFault;
    }

    public int book() {
        draft.copyFrom(now);
        draft.bookLines = 0;
        reader.readText(BOOK_TEXT, tapeSize, MOST_OTHER_TEXT);
        return takeDraft();
    }

    public int roll() {
        draft.copyFrom(now);
        draft.clearRoll();
        reader.readText(ROLL_TEXT, tapeSize, MOST_OTHER_TEXT);
        return takeDraft();
    }

    /** The draft that was read takes the place of what is now, if it has no FAULT. */
    private int takeDraft() {
        tapeSize = 0;
        latestFault = reader.faultKind;
        if (latestFault != 0) {
            return -1 - reader.faultPlace;
        }
        now.copyFrom(draft);
        return reader.lines;
    }

    // ==== SURNAMES, HOUSES and what they hold

    public int surname(int x, int what) throws NoSuchElementException {
        if (!now.island.surnames.has(x) || what < 0 || what > 3) {
            throw new NoSuchElementException("no such SURNAME, or nothing such of it");
        }
        if (what == 0) {
            return now.island.worths.at(x);
        }
        if (what == 1) {
            return now.island.kinds.at(x);
        }
        return what == 2 ? now.hands.holderOf(x) : now.island.feuds.at(x);
    }

    public int house(int h, int what) throws NoSuchElementException {
        if (!now.island.houses.has(h) || what < 0 || what > 1) {
            throw new NoSuchElementException("no such HOUSE, or nothing such of it");
        }
        return what == 0 ? now.hands.held.at(h) : now.hands.sits.at(h);
    }

    public int value(int h, int x) throws NoSuchElementException {
        if (!now.island.houses.has(h) || !now.island.surnames.has(x)) {
            throw new NoSuchElementException("no such HOUSE or SURNAME");
        }
        return now.island.valueFor(h, x);
    }

    public int spring(int seed) {
        if (now.spring >= MOST_SPRINGS || now.island.surnames.size == 0) {
            return NONE;
        }
        now.drawAll(seed);
        return now.spring;
    }

    public int held(int h, int s) {
        return now.heldAt(h, s);
    }

    public int keeper(int x, int s) {
        return now.keeperAt(x, s);
    }

    public int envy(int h) {
        int x = now.island.houses.has(h) ? now.hands.held.at(h) : NONE;
        if (x == NONE) {
            return NONE;
        }
        int envious = 0;
        for (int other = 0; other < now.island.houses.size; other++) {
            if (now.island.valueFor(other, x) > now.hands.valueHeld(now.island, other)) {
                envious++;
            }
        }
        return envious;
    }

    public int worth() {
        return now.hands.allValues(now.island);
    }

    public boolean swap(int a, int b) {
        Island told = now.island;
        if (!told.houses.has(a) || !told.houses.has(b) || a == b) {
            return false;
        }
        if (!now.hands.canTrade(told, a) || !now.hands.canTrade(told, b)) {
            return false;
        }
        now.hands.exchange(a, b);
        return true;
    }

    public int ring() {
        return rings.find(now.island, now.hands);
    }

    public int ringAt(int i) {
        return i < 0 || i >= rings.latestLength ? NONE : rings.latest.at(i);
    }

    public int trade() {
        return now.hands.tradeAll(now.island);
    }

    // ==== The BOOK

    public int go(int does) {
        if (does != 0 && does != 1) {
            return -2;
        }
        Hands hands = draft.hands;
        hands.copyFrom(now.hands);
        int why = 0;
        int line = 0;
        for (; line < now.bookLines; line++) {
            why = hands.doLine(now.island, now.bookWords.at(line), now.bookFirsts.at(line), now.bookSeconds.at(line));
            if (why != 0) {
                break;
            }
        }
        wentOnce = true;
        went.put(0, why);
        went.put(1, line);
        went.put(2, hands.allValues(now.island));
        went.put(3, hands.howManyHeld());
        if (does == 1) {
            now.hands.copyFrom(hands);
        }
        return why == 0 ? NONE : line;
    }

    public int went(int what) {
        return wentOnce ? went.at(what) : NONE;
    }

    // ==== What a draw is worth ahead of it

    public int waiting(int h, int what) throws NoSuchElementException {
        int many = now.island.surnames.size;
        if (!now.island.houses.has(h) || what < 0 || what > 1 || many == 0) {
            throw new NoSuchElementException("no such HOUSE, nothing such of it, or no SURNAMES");
        }
        int all = 0;
        for (int x = 0; x < many; x++) {
            all += now.island.valueFor(h, x);
        }
        return (int) inLeastNumbers(what == 0 ? all : many, all, many);
    }

    public int wedding(int a, int b, int when, int what) throws NoSuchElementException {
        int many = now.island.surnames.size;
        if (!now.island.houses.has(a) || !now.island.houses.has(b) || a == b || many < 2) {
            throw new NoSuchElementException("no such two HOUSES, or fewer than two SURNAMES");
        }
        if (when < 0 || when > 1 || what < 0 || what > 1) {
            throw new NoSuchElementException("a WEDDING is before or behind, above or below");
        }
        int above = when == 0 ? bothOfOne(a, b) : bothOfTheBetter(a, b);
        int below = when == 0 ? many : many * (many - 1) / 2;
        return (int) inLeastNumbers(what == 0 ? above : below, above, below);
    }

    /** What both HOUSES have of each SURNAME, added. */
    private int bothOfOne(int a, int b) {
        int all = 0;
        for (int x = 0; x < now.island.surnames.size; x++) {
            all += now.island.valueForBoth(a, b, x);
        }
        return all;
    }

    /** What both HOUSES have of the better one of each two SURNAMES, added. */
    private int bothOfTheBetter(int a, int b) {
        int all = 0;
        for (int x = 0; x < now.island.surnames.size; x++) {
            int ofOne = now.island.valueForBoth(a, b, x);
            for (int y = x + 1; y < now.island.surnames.size; y++) {
                all += Math.max(ofOne, now.island.valueForBoth(a, b, y));
            }
        }
        return all;
    }

    /** The part (above or below itself) in the least numbers of the two. */
    private static long inLeastNumbers(long part, long above, long below) {
        long most = greatestDivisor(above < 0 ? -above : above, below);
        return most > 1 ? part / most : part;
    }

    private static long greatestDivisor(long a, long b) {
        long one = a;
        long other = b;
        for (int step = 0; step < 200 && other != 0; step++) {
            long rest = one % other;
            one = other;
            other = rest;
        }
        return one;
    }

    // ==== PEWS

    public int broken() {
        int pairs = 0;
        for (int h = 0; h < now.island.houses.size; h++) {
            int feuding = now.hands.feudingWith(now.island, h);
            for (int other = h + 1; other < now.island.houses.size; other++) {
                if ((feuding >> other & 1) == 1 && now.hands.sits.at(h) == now.hands.sits.at(other)) {
                    pairs++;
                }
            }
        }
        return pairs;
    }

    public int seats() {
        return seating.find(now.island, now.hands);
    }

    public int seatOf(int h) {
        return h < 0 || h >= seating.latestHouses ? NONE : seating.latest.at(h);
    }

    public boolean sit() {
        if (seating.latestHouses != now.island.houses.size) {
            return false;
        }
        for (int h = 0; h < seating.latestHouses; h++) {
            if (seating.latest.at(h) >= now.island.pews) {
                return false;
            }
        }
        for (int h = 0; h < seating.latestHouses; h++) {
            now.hands.sits.put(h, seating.latest.at(h));
        }
        return true;
    }

    // ==== The ROLL

    public int dealings() {
        deals.layOut(now, NONE);
        return deals.waysWithout(0);
    }

    public int dealt(int h, int x) {
        if (!now.island.houses.has(h) || !now.island.surnames.has(x)) {
            return NONE;
        }
        deals.layOut(now, h);
        return waysToHave(h, x);
    }

    public int could(int h) {
        if (!now.island.houses.has(h)) {
            return NONE;
        }
        deals.layOut(now, h);
        int bits = 0;
        for (int x = 0; x < now.island.surnames.size; x++) {
            if (waysToHave(h, x) > 0) {
                bits |= 1 << x;
            }
        }
        return bits;
    }

    /** In how many ways the HOUSE has the SURNAME, when the others are laid out. */
    private int waysToHave(int h, int x) {
        return (now.fits.at(h) >> x & 1) == 1 ? deals.waysWithout(1 << x) : 0;
    }

    // ==== SPRINGS that were

    public int grave() {
        int size = tapeSize;
        tapeSize = 0;
        if (size % 2 != 0 || size > 2 * MOST_GRAVES) {
            return NONE;
        }
        int bits = now.island.houses.allBits();
        for (int i = 0; i < size; i += 2) {
            int s = tape.at(i);
            int x = tape.at(i + 1);
            if (s > now.spring || !now.island.surnames.has(x)) {
                return NONE;
            }
            int h = now.keeperAt(x, s);
            bits &= h == NONE ? 0 : 1 << h;
        }
        return bits;
    }

    public int lapsed(int n) {
        if (n < 1 || n > now.spring + 1) {
            return NONE;
        }
        int bits = now.island.surnames.allBits();
        for (int s = now.spring; s > now.spring - n; s--) {
            for (int h = 0; h < now.island.houses.size; h++) {
                int x = now.heldAt(h, s);
                bits &= x == NONE ? -1 : ~(1 << x);
            }
        }
        return bits;
    }

    public long luck(int h, int worth, int what) throws NoSuchElementException {
        if (!tellsLuck(h, worth) || what < 0 || what > 2) {
            throw new NoSuchElementException("no such HOUSE, WORTH or what, no SPRING, or more than 12");
        }
        if (what == 2) {
            return now.drewOfWorth(h, worth);
        }
        long above = luckyWays(h, worth);
        long below = allWays();
        return inLeastNumbers(what == 0 ? above : below, above, below);
    }

    public int unfair(int h, int worth, int p, int q) {
        if (!tellsLuck(h, worth) || p < 0 || p > MOST_PARTS || q < 1 || q > MOST_PARTS) {
            return NONE;
        }
        return luckyWays(h, worth) * q <= allWays() * p ? 1 : 0;
    }

    private boolean tellsLuck(int h, int worth) {
        return now.island.houses.has(h) && worth >= 0 && worth <= MOST_NUMBER
            && now.spring > 0 && now.spring <= MOST_SPRINGS_OF_LUCK;
    }

    /** In how many ways a HOUSE that is never left without draws in all SPRINGS. */
    private long allWays() {
        long all = 1;
        for (int s = 0; s < now.spring && s < MOST_SPRINGS_OF_LUCK; s++) {
            all *= now.island.surnames.size;
        }
        return all;
    }

    /** In how many of them it draws as many SURNAMES of the WORTH as it drew, or more. */
    private long luckyWays(int h, int worth) {
        int good = now.island.howManyOfWorth(worth);
        int bad = now.island.surnames.size - good;
        for (int many = 0; many < ways.length; many++) {
            ways[many] = many == 0 ? 1 : 0;
        }
        for (int s = 0; s < now.spring; s++) {
            for (int many = ways.length - 1; many >= 0; many--) {
                ways[many] = ways[many] * bad + (many > 0 ? ways[many - 1] * good : 0);
            }
        }
        long lucky = 0;
        for (int many = now.drewOfWorth(h, worth); many >= 0 && many < ways.length; many++) {
            lucky += ways[many];
        }
        return lucky;
    }

    // ==== Images

    public boolean image(int k) {
        if (k == 0) {
            firstImage.copyFrom(now);
            firstKept = true;
        } else if (k == 1) {
            secondImage.copyFrom(now);
            secondKept = true;
        }
        return k == 0 || k == 1;
    }

    public boolean restore(int k) {
        if (k == 0 && firstKept) {
            now.copyFrom(firstImage);
            return true;
        }
        if (k == 1 && secondKept) {
            now.copyFrom(secondImage);
            return true;
        }
        return false;
    }

    public int count(int what) {
        switch (what) {
            case 0: return now.island.surnames.size;
            case 1: return now.island.houses.size;
            case 2: return now.island.pews;
            case 3: return now.island.seats;
            case 4: return now.island.field;
            case 5: return now.spring;
            case 6: return now.rollLines;
            case 7: return tapeSize;
            case 8: return now.bookLines;
            default: return NONE;
        }
    }

    /** A row of numbers that tests each index itself: outside it reads NONE and writes nothing. */
    private static final class Row {
        private final int[] cells;

        Row(int size) {
            cells = new int[size < 0 ? 0 : size];
        }

        int at(int i) {
            return i >= 0 && i < cells.length ? cells[i] : NONE;
        }

        void put(int i, int number) {
            if (i >= 0 && i < cells.length) {
                cells[i] = number;
            }
        }

        void fill(int number) {
            for (int i = 0; i < cells.length; i++) {
                cells[i] = number;
            }
        }

        void copyFrom(Row other) {
            for (int i = 0; i < cells.length && i < other.cells.length; i++) {
                cells[i] = other.cells[i];
            }
        }
    }

    /** NAMES of one sort, numbered from 0, each by its letters as one number. */
    private static final class Names {
        private final long[] letters;
        private int size;

        Names(int most) {
            letters = new long[most < 0 ? 0 : most];
        }

        boolean has(int i) {
            return i >= 0 && i < size;
        }

        boolean isFull() {
            return size >= letters.length;
        }

        int allBits() {
            return (1 << size) - 1;
        }

        int find(long name) {
            for (int i = 0; i < size && i < letters.length; i++) {
                if (letters[i] == name) {
                    return i;
                }
            }
            return NONE;
        }

        /** The number of the new NAME. */
        int add(long name) {
            if (size < 0 || size >= letters.length) {
                return NONE;
            }
            letters[size] = name;
            size++;
            return size - 1;
        }

        void clear() {
            size = 0;
        }

        void copyFrom(Names other) {
            for (int i = 0; i < letters.length && i < other.letters.length; i++) {
                letters[i] = other.letters[i];
            }
            size = other.size;
        }
    }

    /** What an ISLAND tells that no SPRING changes. */
    private static final class Island {
        private final Names surnames = new Names(MOST_SURNAMES);
        private final Names houses = new Names(MOST_HOUSES);
        private final Row worths = new Row(MOST_SURNAMES);
        private final Row kinds = new Row(MOST_SURNAMES);
        private final Row feuds = new Row(MOST_SURNAMES);
        private final Row wants = new Row(MOST_HOUSES * MOST_SURNAMES);
        private int pews;
        private int seats;
        private int field;

        void clear() {
            surnames.clear();
            houses.clear();
            worths.fill(0);
            kinds.fill(0);
            feuds.fill(0);
            wants.fill(NONE);
            pews = 1;
            seats = MOST_SEATS;
            field = 0;
        }

        void copyFrom(Island other) {
            surnames.copyFrom(other.surnames);
            houses.copyFrom(other.houses);
            worths.copyFrom(other.worths);
            kinds.copyFrom(other.kinds);
            feuds.copyFrom(other.feuds);
            wants.copyFrom(other.wants);
            pews = other.pews;
            seats = other.seats;
            field = other.field;
        }

        int wanted(int h, int x) {
            return wants.at(h * MOST_SURNAMES + x);
        }

        void want(int h, int x, int number) {
            wants.put(h * MOST_SURNAMES + x, number);
        }

        int valueFor(int h, int x) {
            int wanted = wanted(h, x);
            int much = wanted == NONE ? worths.at(x) : wanted;
            return kinds.at(x) == CURSED ? field - much : much;
        }

        int valueForBoth(int a, int b, int x) {
            return valueFor(a, x) + valueFor(b, x);
        }

        boolean isPawned(int x) {
            return kinds.at(x) == PAWNED;
        }

        boolean feud(int x, int y) {
            return x != NONE && y != NONE && (feuds.at(x) >> y & 1) == 1;
        }

        void startFeud(int x, int y) {
            feuds.put(x, feuds.at(x) | 1 << y);
            feuds.put(y, feuds.at(y) | 1 << x);
        }

        int howManyOfWorth(int worth) {
            int many = 0;
            for (int x = 0; x < surnames.size; x++) {
                if (worths.at(x) >= worth) {
                    many++;
                }
            }
            return many;
        }
    }

    /** Who holds what and sits where; HOUSES that there are not hold nothing. */
    private static final class Hands {
        private final Row held = new Row(MOST_HOUSES);
        private final Row sits = new Row(MOST_HOUSES);
        private final Row points = new Row(MOST_HOUSES);
        private final Row taken = new Row(MOST_HOUSES);

        void clear() {
            held.fill(NONE);
            sits.fill(0);
        }

        void copyFrom(Hands other) {
            held.copyFrom(other.held);
            sits.copyFrom(other.sits);
        }

        int holderOf(int x) {
            for (int h = 0; h < MOST_HOUSES && x != NONE; h++) {
                if (held.at(h) == x) {
                    return h;
                }
            }
            return NONE;
        }

        int howManyHeld() {
            int many = 0;
            for (int h = 0; h < MOST_HOUSES; h++) {
                if (held.at(h) != NONE) {
                    many++;
                }
            }
            return many;
        }

        int valueHeld(Island told, int h) {
            int x = held.at(h);
            return x == NONE ? 0 : told.valueFor(h, x);
        }

        int allValues(Island told) {
            int all = 0;
            for (int h = 0; h < told.houses.size; h++) {
                all += valueHeld(told, h);
            }
            return all;
        }

        int howManyIn(Island told, int pew) {
            int many = 0;
            for (int h = 0; h < told.houses.size; h++) {
                if (sits.at(h) == pew) {
                    many++;
                }
            }
            return many;
        }

        /** HOUSES whose SURNAMES feud with that of this one, as bits. */
        int feudingWith(Island told, int h) {
            int bits = 0;
            for (int other = 0; other < told.houses.size; other++) {
                if (told.feud(held.at(h), held.at(other))) {
                    bits |= 1 << other;
                }
            }
            return bits;
        }

        boolean canTrade(Island told, int h) {
            return held.at(h) != NONE && !told.isPawned(held.at(h));
        }

        void exchange(int a, int b) {
            int x = held.at(a);
            held.put(a, held.at(b));
            held.put(b, x);
        }

        /** All are TRADED; how many circles of two or more there were. */
        int tradeAll(Island told) {
            int left = 0;
            for (int h = 0; h < told.houses.size; h++) {
                left |= canTrade(told, h) ? 1 << h : 0;
            }
            int circles = 0;
            for (int round = 0; round < MOST_HOUSES && left != 0; round++) {
                pointAll(told, left);
                int gone = 0;
                for (int h = 0; h < MOST_HOUSES; h++) {
                    int circle = (left >> h & 1) == 1 ? circleOf(h) : 0;
                    gone |= circle;
                    // A circle counts at its least HOUSE alone.
                    if (Integer.bitCount(circle) > 1 && (circle & (1 << h) - 1) == 0) {
                        circles++;
                    }
                }
                takeWhatTheyPointTo(gone);
                left &= ~gone;
            }
            return circles;
        }

        private void pointAll(Island told, int left) {
            for (int h = 0; h < MOST_HOUSES; h++) {
                if ((left >> h & 1) == 0) {
                    continue;
                }
                int best = h;
                int most = told.valueFor(h, held.at(h));
                for (int other = 0; other < MOST_HOUSES; other++) {
                    if ((left >> other & 1) == 1 && told.valueFor(h, held.at(other)) > most) {
                        best = other;
                        most = told.valueFor(h, held.at(other));
                    }
                }
                points.put(h, best);
            }
        }

        /** The HOUSES of the circle in which this one stands, as bits; 0: it stands in none. */
        private int circleOf(int h) {
            int bits = 0;
            int at = h;
            for (int step = 0; step < MOST_HOUSES; step++) {
                bits |= 1 << at;
                at = points.at(at);
                if (at == h) {
                    return bits;
                }
            }
            return 0;
        }

        private void takeWhatTheyPointTo(int gone) {
            taken.copyFrom(held);
            for (int h = 0; h < MOST_HOUSES; h++) {
                if ((gone >> h & 1) == 1) {
                    held.put(h, taken.at(points.at(h)));
                }
            }
        }

        /** Does a LINE of the BOOK: 0, or why it is WRONG; then nothing is done. */
        int doLine(Island told, int word, int first, int second) {
            switch (word) {
                case Words.SWAP: return doSwap(told, first, second);
                case Words.GIVE: return doGive(told, first, second);
                case Words.DROP: return doDrop(told, first);
                case Words.TAKE: return doTake(told, first, second);
                case Words.SITS: return doSit(told, first, second);
                default:
                    tradeAll(told);
                    return 0;
            }
        }

        private int doSwap(Island told, int a, int b) {
            if (a == b || held.at(a) == NONE || held.at(b) == NONE) {
                return 1;
            }
            if (told.isPawned(held.at(a)) || told.isPawned(held.at(b))) {
                return 2;
            }
            if (told.valueFor(a, held.at(b)) < told.valueFor(a, held.at(a))
                || told.valueFor(b, held.at(a)) < told.valueFor(b, held.at(b))) {
                return 3;
            }
            exchange(a, b);
            return 0;
        }

        private int doGive(Island told, int from, int to) {
            if (from == to || held.at(from) == NONE || held.at(to) != NONE) {
                return 1;
            }
            if (told.isPawned(held.at(from))) {
                return 2;
            }
            if (told.valueFor(to, held.at(from)) < 0) {
                return 3;
            }
            exchange(from, to);
            return 0;
        }

        private int doDrop(Island told, int h) {
            if (held.at(h) == NONE) {
                return 1;
            }
            if (told.isPawned(held.at(h))) {
                return 2;
            }
            held.put(h, NONE);
            return 0;
        }

        private int doTake(Island told, int h, int x) {
            if (held.at(h) != NONE) {
                return 1;
            }
            if (told.isPawned(x)) {
                return 2;
            }
            if (holderOf(x) != NONE) {
                return 4;
            }
            held.put(h, x);
            return 0;
        }

        private int doSit(Island told, int h, int pew) {
            if (sits.at(h) == pew) {
                return 5;
            }
            if (howManyIn(told, pew) >= told.seats) {
                return 6;
            }
            sits.put(h, pew);
            return 0;
        }
    }

    /** All that image() keeps: ISLAND, who holds what and sits where, SPRINGS, ROLL and BOOK. */
    private static final class State {
        private final Island island = new Island();
        private final Hands hands = new Hands();
        private int spring;
        private final Row ended = new Row((MOST_SPRINGS + 1) * MOST_HOUSES);
        private final Row drawn = new Row((MOST_SPRINGS + 1) * MOST_HOUSES);
        private int rollLines;
        private final Row fits = new Row(MOST_HOUSES);
        private int bookLines;
        private final Row bookWords = new Row(MOST_LINES);
        private final Row bookFirsts = new Row(MOST_LINES);
        private final Row bookSeconds = new Row(MOST_LINES);

        State() {
            clear();
        }

        /** An empty ISLAND, no SPRING, no ROLL and no BOOK. */
        void clear() {
            island.clear();
            hands.clear();
            spring = 0;
            ended.fill(NONE);
            drawn.fill(NONE);
            clearRoll();
            bookLines = 0;
        }

        void clearRoll() {
            rollLines = 0;
            fits.fill((1 << MOST_SURNAMES) - 1);
        }

        void copyFrom(State other) {
            island.copyFrom(other.island);
            hands.copyFrom(other.hands);
            spring = other.spring;
            ended.copyFrom(other.ended);
            drawn.copyFrom(other.drawn);
            rollLines = other.rollLines;
            fits.copyFrom(other.fits);
            bookLines = other.bookLines;
            bookWords.copyFrom(other.bookWords);
            bookFirsts.copyFrom(other.bookFirsts);
            bookSeconds.copyFrom(other.bookSeconds);
        }

        int heldAt(int h, int s) {
            if (!island.houses.has(h) || s < 0 || s > spring) {
                return NONE;
            }
            return s == spring ? hands.held.at(h) : ended.at(s * MOST_HOUSES + h);
        }

        int keeperAt(int x, int s) {
            for (int h = 0; h < island.houses.size && island.surnames.has(x); h++) {
                if (heldAt(h, s) == x) {
                    return h;
                }
            }
            return NONE;
        }

        /** The next SPRING, by a seed. */
        void drawAll(int seed) {
            for (int h = 0; h < MOST_HOUSES; h++) {
                ended.put(spring * MOST_HOUSES + h, hands.held.at(h));
            }
            spring++;
            int hat = island.surnames.allBits();
            int x = seed;
            for (int h = 0; h < island.houses.size; h++) {
                int one = NONE;
                int left = Integer.bitCount(hat);
                if (left > 0) {
                    x = x * 1103515245 + 12345;
                    one = inHat(hat, (x >>> 8) % left);
                    hat &= ~(1 << one);
                }
                hands.held.put(h, one);
                drawn.put(spring * MOST_HOUSES + h, one);
            }
        }

        /** The SURNAME with that number of those still in the hat, as they rise. */
        private static int inHat(int hat, int number) {
            int ahead = number;
            for (int x = 0; x < MOST_SURNAMES; x++) {
                if ((hat >> x & 1) == 0) {
                    continue;
                }
                if (ahead == 0) {
                    return x;
                }
                ahead--;
            }
            return NONE;
        }

        /** How many SURNAMES of that WORTH or more the HOUSE drew, whatever it held in the end. */
        int drewOfWorth(int h, int worth) {
            int many = 0;
            for (int s = 1; s <= spring; s++) {
                int x = drawn.at(s * MOST_HOUSES + h);
                if (x != NONE && island.worths.at(x) >= worth) {
                    many++;
                }
            }
            return many;
        }
    }

    /** Looks for the shortest RING, and keeps the latest that there was. */
    private static final class Rings {
        private final Row latest = new Row(MOST_HOUSES);
        private int latestLength;
        private final Row path = new Row(MOST_HOUSES);
        private final Row wishes = new Row(MOST_HOUSES);

        int find(Island told, Hands hands) {
            wishAll(told, hands);
            for (int length = 2; length <= told.houses.size; length++) {
                for (int start = 0; start < told.houses.size; start++) {
                    path.put(0, start);
                    if (closes(this, 1, length, 1 << start)) {
                        latest.copyFrom(path);
                        latestLength = length;
                        return length;
                    }
                }
            }
            return NONE;
        }

        /** Of each HOUSE: those whose SURNAME has more VALUE for it than its own, as bits. */
        private void wishAll(Island told, Hands hands) {
            for (int h = 0; h < MOST_HOUSES; h++) {
                int bits = 0;
                int own = hands.valueHeld(told, h);
                for (int other = 0; other < told.houses.size && hands.canTrade(told, h); other++) {
                    if (hands.canTrade(told, other) && told.valueFor(h, hands.held.at(other)) > own) {
                        bits |= 1 << other;
                    }
                }
                wishes.put(h, bits);
            }
        }

        /** Whether the path of so many HOUSES goes on to a RING of that length; its first one is the least. */
        private static boolean closes(Rings rings, int many, int length, int used) {
            int start = rings.path.at(0);
            int wished = rings.wishes.at(rings.path.at(many - 1));
            if (many >= length || many >= MOST_HOUSES) {
                return (wished >> start & 1) == 1;
            }
            for (int next = start + 1; next < MOST_HOUSES; next++) {
                if (((wished & ~used) >> next & 1) == 0) {
                    continue;
                }
                rings.path.put(many, next);
                if (closes(rings, many + 1, length, used | 1 << next)) {
                    return true;
                }
            }
            return false;
        }
    }

    /** Looks how all are SEATED with the fewest moves, and keeps the latest that there was. */
    private static final class Seating {
        private final Row latest = new Row(MOST_HOUSES);
        private int latestHouses = NONE;
        private final Row tried = new Row(MOST_HOUSES);
        private final Row feuding = new Row(MOST_HOUSES);
        private final Row inPew = new Row(MOST_PEWS);
        private final Row sitNow = new Row(MOST_HOUSES);
        private int houses;
        private int pews;
        private int seats;

        int find(Island told, Hands hands) {
            houses = told.houses.size;
            pews = told.pews;
            seats = told.seats;
            sitNow.copyFrom(hands.sits);
            inPew.fill(0);
            for (int h = 0; h < houses; h++) {
                feuding.put(h, hands.feudingWith(told, h));
            }
            // With one more move allowed each time, the first way found has the fewest.
            for (int moves = 0; moves <= houses && houses <= pews * seats; moves++) {
                if (seatFrom(this, 0, moves)) {
                    latest.copyFrom(tried);
                    latestHouses = houses;
                    return moves;
                }
            }
            return NONE;
        }

        /** Whether the HOUSES from this one on can be seated with so many moves at most; the first way is tried. */
        private static boolean seatFrom(Seating seating, int h, int moves) {
            if (h >= seating.houses || h >= MOST_HOUSES) {
                return true;
            }
            for (int pew = 0; pew < seating.pews; pew++) {
                int there = seating.inPew.at(pew);
                int left = seating.sitNow.at(h) == pew ? moves : moves - 1;
                if (left < 0 || Integer.bitCount(there) >= seating.seats || (there & seating.feuding.at(h)) != 0) {
                    continue;
                }
                seating.inPew.put(pew, there | 1 << h);
                seating.tried.put(h, pew);
                boolean fine = seatFrom(seating, h + 1, left);
                seating.inPew.put(pew, there);
                if (fine) {
                    return true;
                }
            }
            return false;
        }
    }

    /** Counts DEALINGS that fit the ROLL. */
    private static final class Dealings {
        private final Row ways = new Row(1 << MOST_SURNAMES);
        private int dealtTo;
        private int sets;

        /**
         * In how many ways all HOUSES but one (NONE: but none) have just these SURNAMES, told for all
         * sets of SURNAMES: the first so many HOUSES have a set of so many, so that each is counted once.
         */
        void layOut(State state, int but) {
            dealtTo = state.island.houses.size - (but == NONE ? 0 : 1);
            sets = 1 << state.island.surnames.size;
            ways.put(0, 1);
            for (int set = 1; set < sets; set++) {
                int many = Integer.bitCount(set);
                int h = but != NONE && many - 1 >= but ? many : many - 1;
                int all = 0;
                int fitting = many <= dealtTo ? set & state.fits.at(h) : 0;
                for (int x = 0; x < MOST_SURNAMES && fitting >> x != 0; x++) {
                    if ((fitting >> x & 1) == 1) {
                        all += ways.at(set & ~(1 << x));
                    }
                }
                ways.put(set, all);
            }
        }

        /** All ways in which none of the HOUSES has one of these SURNAMES. */
        int waysWithout(int bits) {
            int all = 0;
            for (int set = 0; set < sets; set++) {
                if (Integer.bitCount(set) == dealtTo && (set & bits) == 0) {
                    all += ways.at(set);
                }
            }
            return all;
        }
    }

    /** The WORDS that no NAME may be, by number, and letters as one number. */
    private static final class Words {
        private static final int NAME = 0;
        private static final int CURSE = 1;
        private static final int PAWN = 2;
        private static final int HOUSE = 3;
        private static final int HOLDS = 4;
        private static final int WANTS = 5;
        private static final int FEUD = 6;
        private static final int PEWS = 7;
        private static final int SITS = 8;
        private static final int FIELD = 9;
        private static final int HAS = 10;
        private static final int NOT = 11;
        private static final int SWAP = 12;
        private static final int GIVE = 13;
        private static final int DROP = 14;
        private static final int TAKE = 15;
        private static final int TRADE = 16;

        // In the order of their numbers, a blank behind each.
        private static final String ALL =
            "name cursed pawned house holds wants feud pews sits field has not swap give drop take trade ";

        // With so many signs to tell apart, seven letters stay below the greatest long.
        private static final int SIGNS = 128;

        private Words() {
        }

        static int numberOf(long letters) {
            long word = 0;
            int number = 0;
            for (int i = 0; i < ALL.length(); i++) {
                if (ALL.charAt(i) != ' ') {
                    word = word * SIGNS + ALL.charAt(i);
                    continue;
                }
                if (word == letters) {
                    return number;
                }
                word = 0;
                number++;
            }
            return NONE;
        }
    }

    /** The tape, read TOKEN by TOKEN. */
    private static final class Tokens {
        private static final int END = 0;
        private static final int WORD = 1;
        private static final int NUMBER = 2;
        private static final int SEMICOLON = 3;
        private static final int NO_TOKEN = 4;
        private static final int MOST_LETTERS = 7;
        private static final int MOST_DIGITS = 2;

        private final Row tape = new Row(MOST_TAPE);
        private int size;
        private int most;
        private int behind;

        // Of the TOKEN that was read last; its word is NONE, if it is none of Words.
        private int kind;
        private int place;
        private int number;
        private long letters;
        private int word;

        void start(int bytes, int mostBytes) {
            size = bytes;
            most = mostBytes;
            behind = 0;
        }

        void step() {
            // A TOKEN that begins ahead of the most bytes is read whole, so it is looked for up to there alone.
            int limit = Math.min(size, most);
            place = behind;
            while (place < limit && (tape.at(place) == 32 || tape.at(place) == 10)) {
                place++;
            }
            word = NONE;
            if (place >= limit) {
                place = limit;
                kind = size > most ? NO_TOKEN : END;
                return;
            }
            readRun();
            if (behind == place) {
                kind = tape.at(place) == ';' ? SEMICOLON : NO_TOKEN;
                behind = place + 1;
            }
        }

        /** Small letters and digits as long as they go on. */
        private void readRun() {
            int digits = 0;
            number = 0;
            letters = 0;
            behind = place;
            while (behind < size && (isDigit(tape.at(behind)) || isLetter(tape.at(behind)))) {
                int sign = tape.at(behind);
                if (isDigit(sign)) {
                    number = number * 10 + (sign - '0');
                    digits++;
                } else {
                    letters = letters * Words.SIGNS + sign;
                }
                behind++;
            }
            int signs = behind - place;
            kind = NO_TOKEN;
            if (digits == 0 && signs <= MOST_LETTERS) {
                kind = WORD;
                word = Words.numberOf(letters);
            } else if (digits == signs && signs <= MOST_DIGITS) {
                kind = NUMBER;
            }
        }

        private static boolean isDigit(int sign) {
            return sign >= '0' && sign <= '9';
        }

        private static boolean isLetter(int sign) {
            return sign >= 'a' && sign <= 'z';
        }

        boolean isWord(int one) {
            return kind == WORD && word == one;
        }
    }

    /**
     * Reads a text into the draft. A function named for a LINE begins behind its first TOKEN and ends
     * with the one read that must be the semicolon; it is false where there was a FAULT.
     */
    private static final class Reader {
        private final Tokens tokens = new Tokens();
        private final State draft = new State();
        private int lines;
        private int faultKind;
        private int faultPlace;
        private int found;
        private boolean pewsTold;
        private boolean fieldTold;
        private int sitsTold;

        void readText(int text, int size, int most) {
            tokens.start(size, most);
            lines = 0;
            faultKind = 0;
            pewsTold = false;
            fieldTold = false;
            sitsTold = 0;
            // No text has more LINES than bytes.
            for (int line = 0; line <= MOST_TAPE; line++) {
                tokens.step();
                if (tokens.kind == Tokens.END) {
                    return;
                }
                boolean fine = text == ISLAND_TEXT ? islandLine() : text == ROLL_TEXT ? rollLine() : bookLine();
                if (!fine || !isSemicolon()) {
                    return;
                }
                lines++;
            }
        }

        private boolean fail(int kind) {
            faultKind = kind;
            faultPlace = tokens.place;
            return false;
        }

        // ---- What a TOKEN must be

        private boolean isSemicolon() {
            return tokens.kind == Tokens.SEMICOLON || fail(1);
        }

        private boolean isNumber(int least, int most) {
            if (tokens.kind != Tokens.NUMBER) {
                return fail(1);
            }
            return tokens.number >= least && tokens.number <= most || fail(2);
        }

        private boolean isName() {
            return tokens.kind == Tokens.WORD && tokens.word == NONE || fail(1);
        }

        private boolean isNewName() {
            if (!isName()) {
                return false;
            }
            boolean told = draft.island.surnames.find(tokens.letters) != NONE
                || draft.island.houses.find(tokens.letters) != NONE;
            return !told || fail(3);
        }

        /** Whether it is one of these NAMES; found is its number. */
        private boolean isOneOf(Names names) {
            if (!isName()) {
                return false;
            }
            found = names.find(tokens.letters);
            return found != NONE || fail(3);
        }

        // ---- LINES of an ISLAND

        private boolean islandLine() {
            switch (tokens.word) {
                case Words.NAME: return nameLine();
                case Words.HOUSE: return houseLine();
                case Words.WANTS: return wantsLine();
                case Words.FEUD: return feudLine();
                case Words.PEWS: return pewsLine();
                case Words.SITS: return sitsLine();
                case Words.FIELD: return fieldLine();
                default: return fail(1);
            }
        }

        private boolean nameLine() {
            Island told = draft.island;
            if (told.surnames.isFull()) {
                return fail(4);
            }
            tokens.step();
            if (!isNewName()) {
                return false;
            }
            int x = told.surnames.add(tokens.letters);
            tokens.step();
            if (!isNumber(0, MOST_NUMBER)) {
                return false;
            }
            told.worths.put(x, tokens.number);
            tokens.step();
            if (tokens.isWord(Words.CURSE) || tokens.isWord(Words.PAWN)) {
                told.kinds.put(x, tokens.isWord(Words.CURSE) ? CURSED : PAWNED);
                tokens.step();
            }
            return true;
        }

        private boolean houseLine() {
            if (draft.island.houses.isFull()) {
                return fail(4);
            }
            tokens.step();
            if (!isNewName()) {
                return false;
            }
            int h = draft.island.houses.add(tokens.letters);
            tokens.step();
            if (!tokens.isWord(Words.HOLDS)) {
                return true;
            }
            tokens.step();
            if (!isOneOf(draft.island.surnames)) {
                return false;
            }
            if (draft.hands.holderOf(found) != NONE) {
                return fail(3);
            }
            draft.hands.held.put(h, found);
            tokens.step();
            return true;
        }

        private boolean wantsLine() {
            tokens.step();
            if (!isOneOf(draft.island.houses)) {
                return false;
            }
            int h = found;
            tokens.step();
            if (!isOneOf(draft.island.surnames)) {
                return false;
            }
            int x = found;
            if (draft.island.wanted(h, x) != NONE) {
                return fail(3);
            }
            tokens.step();
            if (!isNumber(0, MOST_NUMBER)) {
                return false;
            }
            draft.island.want(h, x, tokens.number);
            tokens.step();
            return true;
        }

        private boolean feudLine() {
            tokens.step();
            if (!isOneOf(draft.island.surnames)) {
                return false;
            }
            int x = found;
            tokens.step();
            if (!isOneOf(draft.island.surnames)) {
                return false;
            }
            if (x == found || draft.island.feud(x, found)) {
                return fail(3);
            }
            draft.island.startFeud(x, found);
            tokens.step();
            return true;
        }

        private boolean pewsLine() {
            if (pewsTold || sitsTold != 0) {
                return fail(3);
            }
            pewsTold = true;
            tokens.step();
            if (!isNumber(1, MOST_PEWS)) {
                return false;
            }
            draft.island.pews = tokens.number;
            tokens.step();
            if (!isNumber(1, MOST_SEATS)) {
                return false;
            }
            draft.island.seats = tokens.number;
            tokens.step();
            return true;
        }

        private boolean sitsLine() {
            tokens.step();
            if (!isOneOf(draft.island.houses)) {
                return false;
            }
            int h = found;
            if ((sitsTold >> h & 1) == 1) {
                return fail(3);
            }
            sitsTold |= 1 << h;
            tokens.step();
            if (!isNumber(0, draft.island.pews - 1)) {
                return false;
            }
            draft.hands.sits.put(h, tokens.number);
            tokens.step();
            return true;
        }

        private boolean fieldLine() {
            if (fieldTold) {
                return fail(3);
            }
            fieldTold = true;
            tokens.step();
            if (!isNumber(0, MOST_NUMBER)) {
                return false;
            }
            draft.island.field = tokens.number;
            tokens.step();
            return true;
        }

        // ---- LINES of a ROLL

        private boolean rollLine() {
            if (!isOneOf(draft.island.houses)) {
                return false;
            }
            if (lines >= MOST_LINES) {
                return fail(4);
            }
            int h = found;
            tokens.step();
            boolean has = tokens.isWord(Words.HAS);
            if (!has && !tokens.isWord(Words.NOT)) {
                return fail(1);
            }
            tokens.step();
            if (!isOneOf(draft.island.surnames)) {
                return false;
            }
            int such = has ? 1 << found : ~(1 << found);
            draft.fits.put(h, draft.fits.at(h) & such);
            draft.rollLines = lines + 1;
            tokens.step();
            return true;
        }

        // ---- LINES of a BOOK

        private boolean bookLine() {
            int word = tokens.word;
            if (word != Words.SITS && (word < Words.SWAP || word > Words.TRADE)) {
                return fail(1);
            }
            if (lines >= MOST_LINES) {
                return fail(4);
            }
            tokens.step();
            if (word != Words.TRADE) {
                if (!isOneOf(draft.island.houses)) {
                    return false;
                }
                draft.bookFirsts.put(lines, found);
                tokens.step();
            }
            if (word != Words.TRADE && word != Words.DROP) {
                if (!isSecond(word)) {
                    return false;
                }
                draft.bookSeconds.put(lines, word == Words.SITS ? tokens.number : found);
                tokens.step();
            }
            draft.bookWords.put(lines, word);
            draft.bookLines = lines + 1;
            return true;
        }

        /** Whether it is what comes second behind that WORD of a BOOK. */
        private boolean isSecond(int word) {
            if (word == Words.SITS) {
                return isNumber(0, draft.island.pews - 1);
            }
            return isOneOf(word == Words.TAKE ? draft.island.surnames : draft.island.houses);
        }
    }
}
