/**
 * The edges of the calls' numbers: for each call the last that is taken and the first that is refused, on both
 * sides, and numbers that would fit if they wrapped around (by 32 as a shift does, by 2 to the 28th and more as
 * eight or ten times a number does).
 */
public final class EdgeCallTest {
    private static final int[] FAR = {Integer.MIN_VALUE, Integer.MAX_VALUE, -32, 32, 33, 64, -64, 256, 65536, 1 << 24,
        1 << 28, -(1 << 28), 1 << 29, (1 << 29) + 1, -(1 << 29), 1 << 30, (1 << 30) + 1, -(1 << 30), 429496730, 858993459,
        -429496729, 100, 1000, -100, 47, 80, -8, -10};
    private static final String ISLAND = "name p 10;name q 20;name r 5 cursed;name s 30 pawned;house a holds p;"
        + "house b holds q;house c;wants a q 50;wants b p 40;feud p q;pews 2 4;sits b 1;field 3;";
    private static final int SURNAMES = 4;
    private static final int HOUSES = 3;

    /** A call of one number that is none's business where it is out of its bounds. */
    private interface Asked {
        long answer(int number);
    }

    private final Check check = new Check();

    public static void main(String[] args) {
        EdgeCallTest test = new EdgeCallTest();
        test.ofSurnames();
        test.ofHouses();
        test.ofWhat();
        test.ofSprings();
        test.ofLuck();
        test.ofTheLatest();
        test.ofTheTape();
        test.ofPlaces();
        test.ofGraves();
        test.ofTheMost();
        test.check.end("EdgeCallTest");
    }

    private NameHat hat() {
        NameHat hat = check.islandOf(ISLAND);
        check.roll(hat, "a not s;", 1, 0);
        check.book(hat, "drop a;", 1, 0);
        hat.ring();
        hat.seats();
        hat.go(0);
        return hat;
    }

    /** From first to last it is answered, as told; below, above and far away it is NONE. */
    private void answers(String call, int first, int last, Asked asked) {
        for (int n = first; n <= last; n++) {
            check.due(call + " of " + n + " is answered", asked.answer(n) != NameHat.NONE, true);
        }
        for (int n : outside(first, last)) {
            check.due(call + " of " + n, asked.answer(n), NameHat.NONE);
        }
    }

    /** From first to last it is answered; below, above and far away it throws. */
    private void throwsOutside(String call, int first, int last, Asked asked) {
        for (int n = first; n <= last; n++) {
            try {
                asked.answer(n);
            } catch (RuntimeException thrown) {
                check.due(call + " of " + n + " threw " + thrown, 1, 0);
            }
        }
        for (int n : outside(first, last)) {
            check.isMissing(call + " of " + n, () -> asked.answer(n));
        }
    }

    private static int[] outside(int first, int last) {
        int[] all = new int[FAR.length + 7];
        int many = 0;
        all[many++] = first - 1;
        all[many++] = first - 2;
        all[many++] = last + 1;
        all[many++] = last + 2;
        all[many++] = last + 5;
        all[many++] = last + 32;
        all[many++] = first - 32;
        for (int n : FAR) {
            if (n < first || n > last) {
                all[many++] = n;
            }
        }
        return java.util.Arrays.copyOf(all, many);
    }

    // ==== "no such ones"

    private void ofSurnames() {
        NameHat hat = hat();
        for (int what = 0; what < 4; what++) {
            int told = what;
            throwsOutside("surname x", 0, SURNAMES - 1, x -> hat.surname(x, told));
        }
        throwsOutside("value x", 0, SURNAMES - 1, x -> hat.value(2, x));
        answers("keeper x", 0, 1, x -> hat.keeper(x, 0));
        answers("dealt x", 0, SURNAMES - 1, x -> hat.dealt(2, x));
        // No SURNAMES at all, and ten of them.
        NameHat none = check.islandOf("house a;");
        throwsOutside("surname x of none", 0, -1, x -> none.surname(x, 0));
        throwsOutside("value x of none", 0, -1, x -> none.value(0, x));
        answers("keeper x of none", 0, -1, x -> none.keeper(x, 0));
        answers("dealt x of none", 0, -1, x -> none.dealt(0, x));
        NameHat most = most();
        throwsOutside("surname x of ten", 0, 9, x -> most.surname(x, 0));
        throwsOutside("value x of ten", 0, 9, x -> most.value(7, x));
        answers("keeper x of ten", 0, 7, x -> most.keeper(x, 0));
        answers("dealt x of ten", 0, 9, x -> most.dealt(7, x));
    }

    private static String names() {
        StringBuilder text = new StringBuilder();
        for (int x = 0; x < 10; x++) {
            text.append("name ").append((char) ('a' + x)).append(" 99;");
        }
        return text.toString();
    }

    /** Ten SURNAMES, eight HOUSES, each holding the SURNAME of its number. */
    private NameHat most() {
        StringBuilder text = new StringBuilder(names());
        for (int h = 0; h < 8; h++) {
            text.append("house ").append((char) ('m' + h)).append(" holds ").append((char) ('a' + h)).append(';');
        }
        return check.islandOf(text + "pews 4 2;sits m 3;");
    }

    private void ofHouses() {
        NameHat hat = hat();
        throwsOutside("house h", 0, HOUSES - 1, h -> hat.house(h, 0));
        throwsOutside("house h", 0, HOUSES - 1, h -> hat.house(h, 1));
        throwsOutside("value h", 0, HOUSES - 1, h -> hat.value(h, 3));
        throwsOutside("waiting h", 0, HOUSES - 1, h -> hat.waiting(h, 0));
        throwsOutside("wedding a", 0, HOUSES - 2, h -> hat.wedding(h, HOUSES - 1, 0, 0));
        throwsOutside("wedding b", 1, HOUSES - 1, h -> hat.wedding(0, h, 1, 1));
        answers("held h", 0, 1, h -> hat.held(h, 0));
        answers("envy h", 0, 1, h -> hat.envy(h));
        answers("dealt h", 0, HOUSES - 1, h -> hat.dealt(h, 3));
        answers("could h", 0, HOUSES - 1, h -> hat.could(h));
        answers("seatOf h", 0, HOUSES - 1, h -> hat.seatOf(h));
        for (int h : outside(0, HOUSES - 1)) {
            check.due("swap(" + h + ", 0)", hat.swap(h, 0), false);
            check.due("swap(1, " + h + ")", hat.swap(1, h), false);
            check.due("swap of " + h + " with itself", hat.swap(h, h), false);
        }
        hat.spring(5);
        throwsOutside("luck h", 0, HOUSES - 1, h -> hat.luck(h, 0, 0));
        answers("unfair h", 0, HOUSES - 1, h -> hat.unfair(h, 0, 1, 1));
        NameHat none = check.islandOf("name p 1;name q 1;");
        none.spring(1);
        throwsOutside("house h of none", 0, -1, h -> none.house(h, 0));
        throwsOutside("waiting h of none", 0, -1, h -> none.waiting(h, 0));
        throwsOutside("luck h of none", 0, -1, h -> none.luck(h, 0, 0));
        answers("could h of none", 0, -1, h -> none.could(h));
        answers("envy h of none", 0, -1, h -> none.envy(h));
        NameHat most = most();
        throwsOutside("house h of eight", 0, 7, h -> most.house(h, 1));
        throwsOutside("value h of eight", 0, 7, h -> most.value(h, 9));
        throwsOutside("waiting h of eight", 0, 7, h -> most.waiting(h, 1));
        throwsOutside("wedding a of eight", 0, 6, h -> most.wedding(h, 7, 0, 0));
        answers("held h of eight", 0, 7, h -> most.held(h, 0));
        answers("envy h of eight", 0, 7, h -> most.envy(h));
        answers("could h of eight", 0, 7, h -> most.could(h));
        check.due("seats() of eight", most.seats() >= 0, true);
        answers("seatOf h of eight", 0, 7, h -> most.seatOf(h));
        check.due("the first and the last swap", most.swap(0, 7), true);
        check.due("the last has the first's", most.house(7, 0), 0);
    }

    /** "NONE for another what", "NoSuchElementException: no such ones". */
    private void ofWhat() {
        NameHat hat = hat();
        throwsOutside("surname what", 0, 3, what -> hat.surname(0, what));
        throwsOutside("house what", 0, 1, what -> hat.house(0, what));
        throwsOutside("waiting what", 0, 1, what -> hat.waiting(0, what));
        throwsOutside("wedding what", 0, 1, what -> hat.wedding(0, 1, 0, what));
        throwsOutside("wedding what", 0, 1, what -> hat.wedding(0, 1, 1, what));
        throwsOutside("wedding when", 0, 1, when -> hat.wedding(0, 1, when, 0));
        answers("went what", 0, 3, what -> hat.went(what));
        answers("count what", 0, 8, what -> hat.count(what));
        hat.spring(5);
        throwsOutside("luck what", 0, 2, what -> hat.luck(0, 1, what));
        for (int does : outside(0, 1)) {
            check.due("go(" + does + ")", hat.go(does), -2);
        }
        check.due("wedding of one with itself is none", hat.wedding(0, 1, 0, 1) > 0, true);
        for (int h = 0; h < HOUSES; h++) {
            int one = h;
            check.isMissing("wedding of " + h + " alone, before", () -> hat.wedding(one, one, 0, 0));
            check.isMissing("wedding of " + h + " alone, behind", () -> hat.wedding(one, one, 1, 1));
            check.due("swap of " + h + " alone", hat.swap(h, h), false);
        }
    }

    // ==== SPRINGS

    /** "numbered from 1 on, 24 at most (0: as the ISLAND tells)"; "1 to as many as there were, SPRING 0 with them". */
    private void ofSprings() {
        NameHat hat = check.islandOf("name p 1;name q 2;name r 3;house a holds p;house b holds q;house c holds r;");
        for (int spring = 0; spring <= 24; spring++) {
            int last = spring;
            answers("held in " + spring + " SPRINGS", 0, last, s -> hat.held(2, s));
            answers("keeper in " + spring + " SPRINGS", 0, last, s -> hat.keeper(1, s));
            answers("lapsed in " + spring + " SPRINGS", 1, last + 1, n -> hat.lapsed(n));
            check.due("spring() behind " + spring, hat.spring(spring * 7919), spring == 24 ? NameHat.NONE : spring + 1);
            check.due("count(5)", hat.count(5), Math.min(24, spring + 1));
        }
        check.due("spring() once more", hat.spring(0), NameHat.NONE);
        check.due("count(5)", hat.count(5), 24);
    }

    // ==== LUCK

    /** "a WORTH (0 to 99)", "no SPRING, more than 12", "p by q (0 to 999, q from 1)". */
    private void ofLuck() {
        NameHat hat = check.islandOf("name p 1;name q 2;name r 99;house a holds p;house b;");
        for (int spring = 0; spring <= 14; spring++) {
            if (spring >= 1 && spring <= 12) {
                throwsOutside("luck worth", 0, 99, worth -> hat.luck(0, worth, 2));
                answers("unfair worth", 0, 99, worth -> hat.unfair(1, worth, 1, 2));
                answers("unfair p", 0, 999, p -> hat.unfair(0, 99, p, 999));
                answers("unfair q", 1, 999, q -> hat.unfair(0, 99, 999, q));
                check.due("all of WORTH 0 and more", hat.luck(0, 0, 2), spring);
                check.due("0 by 1 is no LUCK's", hat.unfair(0, 0, 0, 1), 0);
                check.due("1 by 1 is any LUCK's", hat.unfair(0, 99, 1, 1), 1);
            } else {
                for (int what = 0; what < 3; what++) {
                    int told = what;
                    check.isMissing("luck() in " + spring + " SPRINGS", () -> hat.luck(0, 1, told));
                }
                check.due("unfair() in " + spring + " SPRINGS", hat.unfair(0, 1, 1, 1), NameHat.NONE);
            }
            hat.spring(spring);
        }
    }

    // ==== What was told last

    /** "NONE: there is none such, or ahead of any". */
    private void ofTheLatest() {
        NameHat hat = check.islandOf(ISLAND);
        answers("ringAt ahead of any", 0, -1, i -> hat.ringAt(i));
        answers("seatOf ahead of any", 0, -1, h -> hat.seatOf(h));
        answers("went ahead of any", 0, -1, what -> hat.went(what));
        check.due("sit() ahead of any", hat.sit(), false);
        check.due("ring()", hat.ring(), 2);
        answers("ringAt of two", 0, 1, i -> hat.ringAt(i));
        check.due("seats()", hat.seats(), 0);
        answers("seatOf of three", 0, 2, h -> hat.seatOf(h));
        check.due("go()", hat.go(0), NameHat.NONE);
        answers("went", 0, 3, what -> hat.went(what));
        // A RING of all eight.
        StringBuilder text = new StringBuilder();
        for (int i = 0; i < 8; i++) {
            text.append("name ").append((char) ('a' + i)).append(" 1;house ").append((char) ('m' + i)).append(" holds ")
                .append((char) ('a' + i)).append(';');
        }
        for (int i = 0; i < 8; i++) {
            text.append("wants ").append((char) ('m' + i)).append(' ').append((char) ('a' + (i + 7) % 8)).append(" 2;");
        }
        NameHat eight = check.islandOf(text.toString());
        check.due("ring() of eight", eight.ring(), 8);
        answers("ringAt of eight", 0, 7, i -> eight.ringAt(i));
        check.due("told from its least HOUSE on", eight.ringAt(0), 0);
        check.due("told from its least HOUSE on", eight.ringAt(1), 7);
        check.due("NONE tells no other", new NameHat().ring(), NameHat.NONE);
        NameHat empty = new NameHat();
        check.due("seats() of no HOUSES", empty.seats(), 0);
        answers("seatOf of no HOUSES", 0, -1, h -> empty.seatOf(h));
        check.due("sit() of no HOUSES", empty.sit(), true);
    }

    // ==== The tape

    /** "NONE, and none come, if it would have more than 940"; "false, if it has not so many, or n is below 0". */
    private void ofTheTape() {
        for (int bytes = 0; bytes <= 940; bytes++) {
            NameHat hat = new NameHat();
            for (int i = 0; i < 47; i++) {
                hat.feed(0x20202020, 0x20202020, 0x20202020, 0x20202020, 0x20202020);
            }
            check.due("end(" + bytes + ")", hat.end(bytes), true);
            boolean fits = bytes + 20 <= 940;
            check.due("feed behind " + bytes, hat.feed(0x6e616d65, 0x20702037, 0x3b202020, 0x20202020, 0x20202020),
                fits ? bytes + 20 : NameHat.NONE);
            check.due("count(7) then", hat.count(7), fits ? bytes + 20 : bytes);
            check.due("end of one more", hat.end(hat.count(7) + 1), false);
            check.due("end of all", hat.end(hat.count(7)), true);
            check.due("island()", hat.island(), fits && bytes + 20 <= 900 ? 1 : bytes <= 900 && !fits ? 0 : -901);
        }
        for (int n : FAR) {
            NameHat hat = new NameHat();
            hat.feed(0, 0, 0, 0, 0);
            check.due("end(" + n + ") of 20", hat.end(n), false);
            check.due("count(7) stays", hat.count(7), 20);
        }
        // Each byte of each number, the highest first; what end() cuts off doesn't come back.
        NameHat hat = check.islandOf("name p 1;");
        check.due("20 signs", hat.feed(0x6e616d65, 0x20616263, 0x20343220, 0x63757273, 0x65642020), 20);
        check.due("end(18)", hat.end(18), true);
        check.due("4 more", hat.feed(0x203b6669, 0x656c6420, 0x373b0a0a, 0x0a0a0a0a, 0x0a0a0a0a), 38);
        check.due("island()", hat.island(), 2);
        check.due("WORTH", hat.surname(0, 0), 42);
        check.due("cursed", hat.surname(0, 1), 1);
        check.due("field", hat.count(4), 7);
        // Bytes above 127 are themselves, of negative numbers too: SPRING 255 is none, byte 0 is SPRING 0.
        hat = check.islandOf("name p 1;house a holds p;");
        hat.feed(-1, -1, -1, -1, -1);
        check.due("end(2)", hat.end(2), true);
        check.due("grave() of 255, 255", hat.grave(), NameHat.NONE);
        hat.feed(0x0000ffff, -1, -1, -1, -1);
        check.due("end(2)", hat.end(2), true);
        check.due("grave() of 0, 0", hat.grave(), 1);
    }

    // ==== Images

    /** "kept in place k (0, 1): true; false: no such one"; "false: no such one, or nothing is kept there". */
    private void ofPlaces() {
        NameHat hat = hat();
        for (int k : outside(0, 1)) {
            check.due("image(" + k + ")", hat.image(k), false);
            check.due("restore(" + k + ")", hat.restore(k), false);
        }
        check.due("nothing in 0", hat.restore(0), false);
        check.due("nothing in 1", hat.restore(1), false);
        check.due("image(1)", hat.image(1), true);
        check.due("nothing in 0 still", hat.restore(0), false);
        check.due("image(0)", hat.image(0), true);
        for (int k : outside(0, 1)) {
            check.due("restore(" + k + ") of two", hat.restore(k), false);
        }
        // A restored ISLAND knows no SPRING that came behind the image.
        hat.spring(1);
        hat.image(0);
        hat.swap(0, 1);
        int first = hat.house(0, 0);
        hat.image(1);
        hat.spring(2);
        hat.spring(3);
        check.due("restore(1)", hat.restore(1), true);
        check.due("SPRING 1", hat.count(5), 1);
        check.due("SPRING 1 as it was", hat.held(0, 1), first);
        answers("held in SPRING s", 0, 1, s -> hat.held(0, s));
        answers("lapsed in n SPRINGS", 1, 2, n -> hat.lapsed(n));
        check.due("SPRING 2 comes again", hat.spring(9), 2);
        check.due("SPRING 1 as it ended", hat.held(0, 1), first);
        check.due("drawn since", hat.luck(0, 0, 2), 2);
        check.due("restore(0)", hat.restore(0), true);
        check.due("drawn till then", hat.luck(0, 0, 2), 1);
    }

    // ==== Graves

    /** "(SPRING, SURNAME; 0 or more of them, 20 at most)", "(SPRINGS 0 to now)". */
    private void ofGraves() {
        NameHat hat = check.islandOf("name p 1;name q 2;house a holds p;house b holds q;");
        for (int springs = 0; springs <= 3; springs++) {
            for (int s = 0; s < 256; s++) {
                Check.tell(hat, "" + (char) s + (char) 1);
                int due = s > springs ? NameHat.NONE : 1 << hat.keeper(1, s);
                check.due("SPRING " + s + " of " + springs, hat.grave(), due);
            }
            for (int x = 0; x < 256; x++) {
                Check.tell(hat, "" + (char) 0 + (char) x);
                check.due("SURNAME " + x, hat.grave(), x > 1 ? NameHat.NONE : 1 << x);
                check.due("the tape is empty then", hat.count(7), 0);
            }
            hat.spring(springs);
        }
        String pair = "" + (char) 0 + (char) 1;
        for (int pairs = 0; pairs <= 30; pairs++) {
            Check.tell(hat, Check.many(pair, pairs));
            check.due(pairs + " pairs", hat.grave(), pairs > 20 ? NameHat.NONE : pairs == 0 ? 3 : 2);
            Check.tell(hat, Check.many(pair, pairs) + (char) 0);
            check.due(pairs + " pairs and a half", hat.grave(), NameHat.NONE);
            check.due("the tape is empty then", hat.count(7), 0);
        }
        // The one that isn't as told may come at the end, behind one that nobody held.
        Check.tell(hat, "" + (char) 1 + (char) 0 + (char) 1 + (char) 1 + (char) 9 + (char) 0);
        check.due("the third pair", hat.grave(), NameHat.NONE);
        // fault() is island()'s, book()'s and roll()'s alone.
        check.island(hat, "pews 9 9;", -6, 2);
        Check.tell(hat, "x");
        check.due("grave() of half a pair", hat.grave(), NameHat.NONE);
        check.due("fault() stays", hat.fault(), 2);
        check.due("grave() of no HOUSES", new NameHat().grave(), 0);
        check.due("grave() of eight", most().grave(), 255);
    }

    // ==== The greatest answers

    private void ofTheMost() {
        NameHat hat = most();
        check.due("worth()", hat.worth(), 8 * 99);
        check.due("waiting above", hat.waiting(7, 0), 99);
        check.due("waiting below", hat.waiting(7, 1), 1);
        check.due("wedding before", hat.wedding(0, 7, 0, 0), 198);
        check.due("wedding behind", hat.wedding(0, 7, 1, 0), 198);
        check.due("lapsed(1)", hat.lapsed(1), 512 + 256);
        check.due("all but none lapsed", check.islandOf(names()).lapsed(1), 1023);
        check.due("dealings()", hat.dealings(), 1814400);
        check.due("could(7)", hat.could(7), 1023);
        check.due("envy of the last", hat.envy(7), 0);
        NameHat cursed = check.islandOf("name p 99 cursed;name q 99 cursed;house a holds p;house b holds q;");
        check.due("the least worth()", cursed.worth(), -198);
        check.due("the least VALUE", cursed.value(0, 0), -99);
        check.due("the least mean", cursed.waiting(0, 0), -99);
        check.due("the least of a WEDDING", cursed.wedding(0, 1, 1, 0), -198);
    }
}
