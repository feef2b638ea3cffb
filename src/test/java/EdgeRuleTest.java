import java.math.BigInteger;
import java.util.ArrayList;
import java.util.List;

/**
 * The edges of what the words of sections 2 and 3 mean: nothing and the most, just as much and one more, like ones,
 * a hat that empties, numbers that wrap around. The sentence stands above its tests.
 */
public final class EdgeRuleTest {
    private final Check check = new Check();

    public static void main(String[] args) {
        EdgeRuleTest test = new EdgeRuleTest();
        test.values();
        test.wrappingDraws();
        test.emptyingHat();
        test.keptInTheEnd();
        test.swapsAndRings();
        test.circles();
        test.envyAndWorth();
        test.swapLines();
        test.otherLines();
        test.howFarABookGoes();
        test.means();
        test.seated();
        test.sitting();
        test.rolls();
        test.lapsing();
        test.luckOfMany();
        test.newIsland();
        test.restoring();
        test.check.end("EdgeRuleTest");
    }

    private static String letter(char first, int number) {
        return String.valueOf((char) (first + number));
    }

    /** SURNAMES a, b, .. of that WORTH, and HOUSES m, n, .. that hold nothing. */
    private static String plain(int surnames, int houses, int worth) {
        StringBuilder text = new StringBuilder();
        for (int x = 0; x < surnames; x++) {
            text.append("name ").append(letter('a', x)).append(' ').append(worth).append(';');
        }
        for (int h = 0; h < houses; h++) {
            text.append("house ").append(letter('m', h)).append(';');
        }
        return text.toString();
    }

    // ==== VALUE

    /** "what it wants of it, or its WORTH; of a cursed one less than 0 by so much, and 'field' more". */
    private void values() {
        NameHat hat = check.islandOf("name a 99;name b 99 cursed;name c 99 pawned;name d 0 cursed;house m;house n;"
            + "wants m a 0;wants m b 0;wants m c 0;wants m d 99;field 1;");
        int[][] due = {{0, 1, 0, -98}, {99, -98, 99, 1}};
        for (int h = 0; h < 2; h++) {
            for (int x = 0; x < 4; x++) {
                check.due("value(" + h + ", " + x + ")", hat.value(h, x), due[h][x]);
            }
        }
        // 'field' may come ahead of all or behind, as may what is wanted.
        NameHat first = check.islandOf("field 9;name a 4 cursed;house m;");
        check.due("'field' ahead", first.value(0, 0), 5);
        NameHat last = check.islandOf("name a 4 cursed;house m;wants m a 9;field 9;");
        check.due("'field' behind", last.value(0, 0), 0);
        // "Who holds none has VALUE 0": more than a cursed one.
        NameHat none = check.islandOf("name a 1 cursed;name b 0;house m;house n;house o;");
        check.due("worth() of none held", none.worth(), 0);
        check.book(none, "take m a;take n b;", 2, 0);
        check.due("go(1)", none.go(1), NameHat.NONE);
        check.due("all VALUES", none.went(2), -1);
        check.due("SURNAMES held", none.went(3), 2);
        check.due("worth()", none.worth(), -1);
        check.due("envy of -1", none.envy(0), 0);
        check.due("envy of 0: more than -1, not more than nothing", none.envy(1), 1);
    }

    // ==== A SPRING

    private static int[] drawsDue(int seed, int surnames, int houses) {
        List<Integer> hat = new ArrayList<>();
        for (int x = 0; x < surnames; x++) {
            hat.add(x);
        }
        BigInteger x = BigInteger.valueOf(seed);
        BigInteger turn = BigInteger.ONE.shiftLeft(32);
        int[] drawn = new int[houses];
        for (int h = 0; h < houses; h++) {
            drawn[h] = NameHat.NONE;
            if (!hat.isEmpty()) {
                x = x.multiply(BigInteger.valueOf(1103515245)).add(BigInteger.valueOf(12345)).mod(turn);
                drawn[h] = hat.remove(x.shiftRight(8).mod(BigInteger.valueOf(hat.size())).intValue());
            }
        }
        return drawn;
    }

    /** "x becomes x * 1103515245 + 12345 (an int, wrapping), the draw is (x >>> 8) % n". */
    private void wrappingDraws() {
        int[] seeds = {0, 1, 2, -1, -2, 255, 256, -256, Integer.MAX_VALUE, Integer.MIN_VALUE, Integer.MIN_VALUE + 1, 1 << 30,
            1103515245, -12345, 12345, 0x7fffff00, 0x80000100, 987654321, -987654321};
        for (int seed : seeds) {
            for (int surnames = 1; surnames <= 10; surnames++) {
                for (int houses = 1; houses <= 8; houses += surnames % 2 == 0 ? 1 : 7) {
                    NameHat hat = check.islandOf(plain(surnames, houses, 1));
                    check.due("spring(" + seed + ")", hat.spring(seed), 1);
                    int[] due = drawsDue(seed, surnames, houses);
                    for (int h = 0; h < houses; h++) {
                        check.due("seed " + seed + ", " + surnames + " in " + houses + ": " + h, hat.house(h, 0), due[h]);
                    }
                }
            }
        }
    }

    /** "All SURNAMES are in the hat", "(the last ones none, if there are too few)". */
    private void emptyingHat() {
        for (int surnames = 1; surnames <= 9; surnames++) {
            NameHat hat = check.islandOf(plain(surnames, 8, 5));
            hat.spring(surnames);
            for (int h = 0; h < 8; h++) {
                check.due("HOUSE " + h + " of " + surnames, hat.house(h, 0) >= 0, h < surnames);
            }
            int in = 0;
            for (int x = 0; x < surnames; x++) {
                in += hat.surname(x, 2) == NameHat.NONE ? 1 : 0;
            }
            check.due("left in the hat", in, Math.max(0, surnames - 8));
            check.due("worth()", hat.worth(), 5 * Math.min(surnames, 8));
        }
        // A pawned one, held or not, and a cursed one are in the hat, too.
        NameHat hat = check.islandOf("name a 1 pawned;name b 1 cursed;name c 1 pawned;house m holds a;house n;house o;");
        hat.spring(6);
        int all = 0;
        for (int h = 0; h < 3; h++) {
            all |= 1 << hat.house(h, 0);
        }
        check.due("all three are drawn", all, 7);
        // No HOUSES: a SPRING all the same. No SURNAMES: none.
        NameHat noHouses = check.islandOf("name a 1;");
        check.due("no HOUSES", noHouses.spring(1), 1);
        NameHat noSurnames = check.islandOf("house m;");
        check.due("no SURNAMES", noSurnames.spring(1), NameHat.NONE);
        check.due("no SURNAMES", noSurnames.count(5), 0);
    }

    /** "each is kept as it is in the end, when the next one comes"; "(the one now: as it is)". */
    private void keptInTheEnd() {
        NameHat hat = check.islandOf(plain(3, 3, 1) + "pews 2 8;");
        int[][] kept = new int[25][3];
        for (int h = 0; h < 3; h++) {
            kept[0][h] = NameHat.NONE;
        }
        for (int s = 1; s <= 24; s++) {
            hat.spring(s * 31);
            hat.swap(s % 3, (s + 1) % 3);
            check.book(hat, "drop " + letter('m', s % 3) + ";", 1, 0);
            if (s % 4 == 0) {
                hat.go(1);
            }
            for (int h = 0; h < 3; h++) {
                kept[s][h] = hat.house(h, 0);
            }
        }
        for (int s = 0; s <= 24; s++) {
            for (int h = 0; h < 3; h++) {
                check.due("held(" + h + ", " + s + ")", hat.held(h, s), kept[s][h]);
            }
            for (int x = 0; x < 3; x++) {
                int keeper = NameHat.NONE;
                for (int h = 0; h < 3; h++) {
                    keeper = kept[s][h] == x ? h : keeper;
                }
                check.due("keeper(" + x + ", " + s + ")", hat.keeper(x, s), keeper);
            }
        }
        check.due("dropped in 24", hat.held(0, 24), NameHat.NONE);
        check.due("keeper of what nobody holds now", hat.keeper(0, 0), NameHat.NONE);
    }

    // ==== SWAPS, RINGS, TRADED

    /** "both not pawned"; "HOUSES one after another (2 at least, unlike) ... none pawned, each with more VALUE then". */
    private void swapsAndRings() {
        NameHat hat = check.islandOf("name a 50;name b 0;name c 1 pawned;house m holds a;house n holds b;house o holds c;");
        check.due("a SWAP asks for no VALUE", hat.swap(0, 1), true);
        check.due("nor does it back", hat.swap(0, 1), true);
        check.due("one pawned", hat.swap(0, 2), false);
        check.due("one pawned", hat.swap(2, 1), false);
        // Just as much is not more; one more is.
        for (int more = 0; more <= 1; more++) {
            for (int too = 0; too <= 1; too++) {
                NameHat two = check.islandOf("name a 5;name b 5;house m holds a;house n holds b;wants m b " + (5 + more)
                    + ";wants n a " + (5 + too) + ";");
                check.due("ring() of " + more + " and " + too + " more", two.ring(), more + too == 2 ? 2 : NameHat.NONE);
            }
        }
        // One that is pawned, or nothing, breaks the only RING.
        String three = "wants m b 9;wants n c 9;wants o a 9;";
        check.due("three", ringOf("name a 5;name b 5;name c 5;house m holds a;house n holds b;house o holds c;" + three), 3);
        check.due("one pawned", ringOf("name a 5;name b 5 pawned;name c 5;house m holds a;house n holds b;house o holds c;"
            + three), NameHat.NONE);
        check.due("one with nothing", ringOf("name a 5;name b 5;name c 5;house m holds a;house n holds b;house o;" + three),
            NameHat.NONE);
        check.due("a cursed one goes on", ringOf("name a 5;name b 5 cursed;name c 5;house m holds a;house n holds b;"
            + "house o holds c;wants m a 1;wants m b 0;wants m c 1;wants n a 2;wants n b 0;wants n c 9;"
            + "wants o a 9;field 2;"), 3);
        check.due("one HOUSE alone is none", ringOf("name a 5;house m holds a;wants m a 99;"), NameHat.NONE);
        // The shorter of two, though the longer begins with a lesser HOUSE; of like long ones the least HOUSE's.
        NameHat long3 = check.islandOf("name a 5;name b 5;name c 5;name d 5;name e 5;house m holds a;house n holds b;"
            + "house o holds c;house p holds d;house q holds e;wants m b 9;wants n c 9;wants o a 9;wants p e 9;"
            + "wants q d 9;");
        check.due("the shorter one", long3.ring(), 2);
        check.due("p", long3.ringAt(0), 3);
        check.due("q", long3.ringAt(1), 4);
        check.due("swap p, q", long3.swap(3, 4), true);
        check.due("the longer one then", long3.ring(), 3);
        check.due("from the least HOUSE on", long3.ringAt(0) * 100 + long3.ringAt(1) * 10 + long3.ringAt(2), 12);
        check.due("no fourth", long3.ringAt(3), NameHat.NONE);
    }

    private int ringOf(String text) {
        return check.islandOf(text).ring();
    }

    /** "each points to the one (itself, too) whose SURNAME it VALUES most (of like ones its own, else the least HOUSE)". */
    private void circles() {
        check.due("one HOUSE", check.islandOf("name a 5;house m holds a;").trade(), 0);
        check.due("no HOUSES", check.islandOf("name a 5;").trade(), 0);
        check.due("all pawned", check.islandOf("name a 5 pawned;name b 5 pawned;house m holds a;house n holds b;"
            + "wants m b 9;wants n a 9;").trade(), 0);
        for (int more = 0; more <= 1; more++) {
            NameHat hat = check.islandOf("name a 5;name b 5;house m holds a;house n holds b;wants m b " + (5 + more)
                + ";wants n a 6;");
            check.due("trade() of " + more + " more", hat.trade(), more);
            check.due("m holds", hat.house(0, 0), more);
        }
        // Of two that are like, the least HOUSE: o and n are as good for m.
        NameHat like = check.islandOf("name a 1;name b 5;name c 5;house m holds a;house n holds b;house o holds c;"
            + "wants n a 9;wants o a 9;");
        check.due("trade()", like.trade(), 1);
        check.due("m took n's", like.house(0, 0), 1);
        check.due("o kept its own", like.house(2, 0), 2);
        // What a circle took with it is out: the next ones point to what is left, itself at last.
        NameHat left = check.islandOf("name a 1;name b 1;name c 1;house m holds a;house n holds b;house o holds c;"
            + "wants m b 9;wants n a 9;wants o a 9;wants o b 8;");
        check.due("trade()", left.trade(), 1);
        check.due("o is left alone", left.house(2, 0), 2);
        // Four circles of two, of all eight HOUSES.
        StringBuilder text = new StringBuilder();
        for (int h = 0; h < 8; h++) {
            text.append("name ").append(letter('a', h)).append(" 1;house ").append(letter('m', h)).append(" holds ")
                .append(letter('a', h)).append(';');
        }
        for (int h = 0; h < 8; h++) {
            text.append("wants ").append(letter('m', h)).append(' ').append(letter('a', 7 - h)).append(" 2;");
        }
        NameHat four = check.islandOf(text.toString());
        check.due("trade() of four circles", four.trade(), 4);
        for (int h = 0; h < 8; h++) {
            check.due("house(" + h + ", 0)", four.house(h, 0), 7 - h);
        }
        check.due("nobody would trade again", four.trade(), 0);
        check.due("nor is there a RING", four.ring(), NameHat.NONE);
    }

    /** "How many HOUSES would have more VALUE of what HOUSE h holds than of their own (nothing: 0)". */
    private void envyAndWorth() {
        for (int n = 4; n <= 6; n++) {
            NameHat hat = check.islandOf("name a 5;name b 5;house m holds a;house n holds b;wants m b " + n + ";");
            check.due("envy of " + n + " to 5", hat.envy(1), n > 5 ? 1 : 0);
        }
        for (int n = 0; n <= 1; n++) {
            NameHat hat = check.islandOf("name a 5;house m holds a;house n;wants n a " + n + ";");
            check.due("envy of " + n + " to nothing", hat.envy(0), n);
        }
        StringBuilder text = new StringBuilder("name z 1;house l holds z;");
        for (int h = 0; h < 7; h++) {
            text.append("house ").append(letter('m', h)).append(';');
        }
        check.due("all seven envy", check.islandOf(text.toString()).envy(0), 7);
    }

    // ==== A BOOK

    /** One LINE alone, on that ISLAND: why it is WRONG, and that nothing is done then. */
    private void line(String island, String line, int why) {
        NameHat hat = check.islandOf(island);
        check.book(hat, line, 1, 0);
        check.due("go(1) of " + line, hat.go(1), why == 0 ? NameHat.NONE : 0);
        check.due("went(0) of " + line + " on " + island, hat.went(0), why);
        check.due("went(1) of " + line, hat.went(1), why == 0 ? 1 : 0);
        NameHat same = check.islandOf(island);
        boolean moved = false;
        for (int h = 0; h < hat.count(1); h++) {
            moved |= hat.house(h, 0) != same.house(h, 0) || hat.house(h, 1) != same.house(h, 1);
        }
        check.due("done, if it is not WRONG: " + line, moved, why == 0);
    }

    /** "the least why": 1, 2, 3 of a 'swap'. */
    private void swapLines() {
        String[] kinds = {"", " pawned"};
        for (int m = 4; m <= 6; m++) {
            for (int n = 4; n <= 6; n++) {
                for (int pawned = 0; pawned < 4; pawned++) {
                    String two = "name a 5" + kinds[pawned & 1] + ";name b 5" + kinds[pawned >> 1]
                        + ";house m holds a;house n holds b;wants m b " + m + ";wants n a " + n + ";";
                    int why = pawned != 0 ? 2 : m < 5 || n < 5 ? 3 : 0;
                    line(two, "swap m n;", why);
                    line(two, "swap n m;", why);
                    line(two, "swap m m;", 1);
                }
            }
        }
        for (String kind : kinds) {
            String one = "name a 5" + kind + ";name b 5;house m holds a;house n;house o;";
            line(one, "swap m n;", 1);
            line(one, "swap n m;", 1);
            line(one, "swap n o;", 1);
            line(one, "swap n n;", 1);
        }
        // A cursed one for a cursed one, and for one of less than it.
        line("name a 3 cursed;name b 3 cursed;house m holds a;house n holds b;", "swap m n;", 0);
        line("name a 3 cursed;name b 2 cursed;house m holds a;house n holds b;", "swap m n;", 3);
    }

    /** "nothing is 0"; 'give', 'drop', 'take', 'sits', each at its edges. */
    private void otherLines() {
        for (int field = 0; field <= 2; field++) {
            String cursed = "name a 1 cursed;name b 9;house m holds a;house n;house o;field " + field + ";";
            line(cursed, "give m n;", field == 0 ? 3 : 0);
            line(cursed, "give n o;", 1);
            line(cursed, "give n m;", 1);
            line(cursed, "give m m;", 1);
            line(cursed, "give n n;", 1);
            line(cursed, "drop m;", 0);
            line(cursed, "drop n;", 1);
            // Who takes asks for no VALUE.
            line(cursed, "take n a;", 4);
            line(cursed, "take n b;", 0);
            line(cursed, "take m b;", 1);
            line(cursed, "take m a;", 1);
        }
        line("name a 9 cursed;house m;", "take m a;", 0);
        String both = "name a 0;name b 9 pawned;name c 9 pawned;house m holds a;house n holds b;house o;";
        line(both, "give m o;", 0);
        line(both, "give m n;", 1);
        line(both, "give n m;", 1);
        line(both, "give n o;", 2);
        line(both, "drop n;", 2);
        line(both, "take o b;", 2);
        line(both, "take o c;", 2);
        line(both, "take m c;", 1);
        line(both, "take m b;", 1);
        // "5 it sits there; 6 there are SEATS so many there already".
        for (int seats = 1; seats <= 8; seats++) {
            String pews = plain(1, 8, 1) + "pews 2 " + seats + ";";
            StringBuilder sits = new StringBuilder();
            for (int h = 0; h < 7; h++) {
                line(pews + sits, "sits t 1;", h >= seats ? 6 : 0);
                line(pews + sits, "sits t 0;", 5);
                if (h > 0) {
                    line(pews + sits, "sits m 1;", 5);
                    line(pews + sits, "sits m 0;", 8 - h >= seats ? 6 : 0);
                }
                sits.append("sits ").append(letter('m', h)).append(" 1;");
            }
            line(pews + sits + "sits t 1;", "sits m 1;", 5);
            line(pews + sits + "sits t 1;", "sits m 0;", 0);
        }
    }

    /** "the LINE that is WRONG (from 0); NONE: none"; "1 LINES done, 2 all VALUES added, 3 SURNAMES held". */
    private void howFarABookGoes() {
        String island = "name a 5;name b 7;house m holds a;house n holds b;house o;";
        for (int wrong = 0; wrong <= 30; wrong++) {
            NameHat hat = check.islandOf(island);
            StringBuilder text = new StringBuilder();
            for (int line = 0; line < 30; line++) {
                boolean there = line % 2 == 0;
                text.append(line == wrong ? "drop o;" : there ? "drop m;" : "take m a;");
            }
            check.book(hat, text.toString(), 30, 0);
            for (int does = 0; does < 2; does++) {
                check.due("go(" + does + ")", hat.go(does), wrong == 30 ? NameHat.NONE : wrong);
                check.due("why", hat.went(0), wrong == 30 ? 0 : 1);
                check.due("LINES done", hat.went(1), wrong);
                boolean dropped = wrong % 2 == 1;
                check.due("all VALUES", hat.went(2), dropped ? 7 : 12);
                check.due("SURNAMES held", hat.went(3), dropped ? 1 : 2);
                check.due("m holds", hat.house(0, 0), does == 1 && dropped ? NameHat.NONE : 0);
            }
        }
        // A 'trade' is never WRONG, and what the LINES ahead did is there for it.
        NameHat hat = check.islandOf(island + "wants o b 9;wants n a 9;");
        check.book(hat, "trade;give m o;trade;trade;", 4, 0);
        check.due("go(1)", hat.go(1), NameHat.NONE);
        check.due("o holds", hat.house(2, 0), 1);
        check.due("n holds", hat.house(1, 0), 0);
        check.due("m holds", hat.house(0, 0), NameHat.NONE);
        check.due("LINES done", hat.went(1), 4);
        NameHat none = check.islandOf("name a 5;");
        check.book(none, "trade;", 1, 0);
        check.due("a 'trade' of no HOUSES", none.go(1), NameHat.NONE);
        check.due("LINES done", none.went(1), 1);
    }

    // ==== WAITING, a WEDDING

    private void meanIs(NameHat hat, int when, int above, int below) {
        check.due("above " + when, when < 0 ? hat.waiting(0, 0) : hat.wedding(0, 1, when, 0), above);
        check.due("below " + when, when < 0 ? hat.waiting(0, 1) : hat.wedding(0, 1, when, 1), below);
    }

    /** "in least numbers (below above 0)"; "no SURNAMES", "fewer than two SURNAMES". */
    private void means() {
        NameHat zero = check.islandOf(plain(7, 2, 0));
        meanIs(zero, -1, 0, 1);
        meanIs(zero, 0, 0, 1);
        meanIs(zero, 1, 0, 1);
        NameHat one = check.islandOf(plain(1, 2, 9));
        meanIs(one, -1, 9, 1);
        check.isMissing("one SURNAME, before", () -> one.wedding(0, 1, 0, 0));
        check.isMissing("one SURNAME, behind", () -> one.wedding(0, 1, 1, 0));
        NameHat two = check.islandOf(plain(2, 2, 9));
        meanIs(two, 0, 18, 1);
        meanIs(two, 1, 18, 1);
        NameHat none = check.islandOf(plain(0, 2, 0));
        check.isMissing("no SURNAMES", () -> none.waiting(0, 0));
        check.isMissing("no SURNAMES", () -> none.waiting(1, 1));
        check.isMissing("no SURNAMES", () -> none.wedding(0, 1, 0, 0));
        // Below 0, with 10 SURNAMES and 45 twos of them.
        StringBuilder text = new StringBuilder();
        for (int x = 0; x < 10; x++) {
            text.append("name ").append(letter('a', x)).append(' ').append(x + 1).append(" cursed;");
        }
        NameHat cursed = check.islandOf(text + "house m;house n;");
        meanIs(cursed, -1, -11, 2);
        meanIs(cursed, 0, -11, 1);
        // The k-th least is the better of 10 - k twos: 2 * (1*9 + 2*8 + .. + 9*1) = 330 of 45.
        meanIs(cursed, 1, -22, 3);
        // What is held, and how many HOUSES there are, has no part in it.
        NameHat held = check.islandOf("name a 1;name b 2;house m holds a;house n;house o;house p;");
        meanIs(held, -1, 3, 2);
        meanIs(held, 0, 3, 1);
        meanIs(held, 1, 4, 1);
    }

    // ==== SEATED

    /** "each HOUSE in a PEW, no more in one than SEATS". */
    private void seated() {
        for (int pews = 1; pews <= 4; pews++) {
            for (int seats = 1; seats <= 8; seats++) {
                for (int houses = 0; houses <= 8; houses++) {
                    NameHat hat = check.islandOf(plain(1, houses, 1) + "pews " + pews + " " + seats + ";");
                    boolean fit = houses <= pews * seats;
                    check.due(houses + " in " + pews + " by " + seats, hat.seats(),
                        fit ? Math.max(0, houses - seats) : NameHat.NONE);
                    for (int h = 0; h < houses && fit; h++) {
                        check.due("seatOf(" + h + ")", hat.seatOf(h), h < seats ? 0 : (h - seats) / seats + 1);
                    }
                }
            }
        }
        // Feuds: as many SURNAMES that feud with all others as there are PEWS, and one more.
        for (int houses = 2; houses <= 5; houses++) {
            StringBuilder text = new StringBuilder("pews 4 8;");
            for (int h = 0; h < houses; h++) {
                text.append("name ").append(letter('a', h)).append(" 1;house ").append(letter('m', h)).append(" holds ")
                    .append(letter('a', h)).append(';');
            }
            for (int h = 0; h < houses; h++) {
                for (int g = 0; g < h; g++) {
                    text.append("feud ").append(letter('a', h)).append(' ').append(letter('a', g)).append(';');
                }
            }
            NameHat hat = check.islandOf(text.toString());
            check.due("broken() of " + houses, hat.broken(), houses * (houses - 1) / 2);
            check.due("seats() of " + houses, hat.seats(), houses > 4 ? NameHat.NONE : houses - 1);
            check.due("sit()", hat.sit(), houses <= 4);
            check.due("broken() then", hat.broken(), houses > 4 ? 10 : 0);
        }
        // None moves where none has to, wherever they sit.
        NameHat hat = check.islandOf(plain(1, 4, 1) + "pews 4 1;sits m 3;sits n 2;sits o 1;sits p 0;");
        check.due("none moves", hat.seats(), 0);
        for (int h = 0; h < 4; h++) {
            check.due("seatOf(" + h + ")", hat.seatOf(h), 3 - h);
        }
    }

    /** "false: there is none, there are not as many HOUSES as then, or a PEW of these is none now". */
    private void sitting() {
        for (int houses = 0; houses <= 8; houses++) {
            NameHat hat = check.islandOf(plain(1, 4, 1) + "pews 3 8;sits n 2;sits o 1;");
            check.due("seats()", hat.seats(), 0);
            check.island(hat, plain(1, houses, 1) + "pews 4 1;", houses + 2, 0);
            check.due("sit() of " + houses, hat.sit(), houses == 4);
            for (int h = 0; h < houses; h++) {
                check.due("house(" + h + ", 1)", hat.house(h, 1), houses != 4 ? 0 : h == 1 ? 2 : h == 2 ? 1 : 0);
            }
        }
        for (int pews = 1; pews <= 4; pews++) {
            NameHat hat = check.islandOf(plain(1, 4, 1) + "pews 3 8;sits n 2;sits o 1;");
            hat.seats();
            check.island(hat, plain(1, 4, 1) + "pews " + pews + " 8;", 6, 0);
            check.due("sit() in " + pews + " PEWS", hat.sit(), pews >= 3);
            check.due("house(1, 1)", hat.house(1, 1), pews >= 3 ? 2 : 0);
            check.due("house(2, 1)", hat.house(2, 1), pews >= 3 ? 1 : 0);
        }
    }

    // ==== A ROLL

    /** "all ways in which each HOUSE draws a SURNAME of its own such that all LINES are so". */
    private void rolls() {
        for (int surnames = 0; surnames <= 10; surnames++) {
            for (int houses = 0; houses <= 8; houses++) {
                NameHat hat = check.islandOf(plain(surnames, houses, 1));
                int ways = 1;
                for (int h = 0; h < houses; h++) {
                    ways *= Math.max(0, surnames - h);
                }
                check.due(surnames + " in " + houses, hat.dealings(), ways);
                for (int h = 0; h < houses; h++) {
                    check.due("could(" + h + ")", hat.could(h), ways > 0 ? (1 << surnames) - 1 : 0);
                    for (int x = 0; x < surnames; x++) {
                        check.due("dealt(" + h + ", " + x + ")", hat.dealt(h, x), ways / surnames);
                    }
                }
            }
        }
        // What they hold now is no LINE of the ROLL.
        NameHat held = check.islandOf("name a 1;name b 1;house m holds a;house n holds b;");
        check.due("dealings()", held.dealings(), 2);
        check.roll(held, "m not a;n not b;", 2, 0);
        check.due("dealings()", held.dealings(), 1);
        // The same LINE twice, one that says no and yes, one SURNAME for two.
        String[] lines = {"m has a;m has a;", "m has a;m not a;", "m has a;m has b;", "m has a;n has a;", "m not a;m not b;",
            "m not a;m not b;m not c;", "m has a;n has b;o has c;", "m has a;n has b;o not c;", "m has a;m not b;m not c;"};
        int[] due = {2, 0, 0, 0, 2, 0, 1, 0, 2};
        for (int i = 0; i < lines.length; i++) {
            NameHat hat = check.islandOf(plain(3, 3, 1));
            check.roll(hat, lines[i], lines[i].length() / 8, 0);
            check.due("dealings() of " + lines[i], hat.dealings(), due[i]);
            int could = 0;
            for (int x = 0; x < 3; x++) {
                could |= hat.dealt(2, x) > 0 ? 1 << x : 0;
            }
            check.due("could(2) of " + lines[i], hat.could(2), could);
        }
        // Each roll() tells it anew: no LINE of an earlier one is left.
        NameHat hat = check.islandOf(plain(3, 3, 1));
        check.roll(hat, "m has a;n has b;", 2, 0);
        check.roll(hat, "m not a;", 1, 0);
        check.due("dealings()", hat.dealings(), 4);
        check.due("count(6)", hat.count(6), 1);
        hat.spring(3);
        check.due("a SPRING leaves the ROLL", hat.dealings(), 4);
    }

    // ==== LAPSED, LUCK

    /** "SURNAMES that nobody held at the end of the latest so many (the one now, too)". */
    private void lapsing() {
        NameHat hat = check.islandOf("name a 1;name b 1;name c 1;house m holds c;");
        check.due("lapsed(1) in SPRING 0", hat.lapsed(1), 3);
        check.due("lapsed(2) in SPRING 0", hat.lapsed(2), NameHat.NONE);
        int[] ends = new int[25];
        ends[0] = 1 << 2;
        for (int s = 1; s <= 24; s++) {
            hat.spring(s * s * 99991);
            ends[s] = 1 << hat.house(0, 0);
            int due = 7;
            for (int n = 1; n <= s + 1; n++) {
                due &= ~ends[s - n + 1];
                check.due("lapsed(" + n + ") in SPRING " + s, hat.lapsed(n), due);
            }
            check.due("lapsed(0)", hat.lapsed(0), NameHat.NONE);
            check.due("lapsed of one more", hat.lapsed(s + 2), NameHat.NONE);
        }
        check.book(hat, "drop m;", 1, 0);
        hat.go(1);
        check.due("the one now, as it is", hat.lapsed(1), 7);
    }

    /** "it draws as many SURNAMES of a WORTH or more as it drew, or more of them"; 12 SPRINGS, ten SURNAMES. */
    private void luckOfMany() {
        StringBuilder text = new StringBuilder();
        for (int x = 0; x < 10; x++) {
            text.append("name ").append(letter('a', x)).append(' ').append(x * 11).append(x % 3 == 1 ? " cursed;" : ";");
        }
        NameHat hat = check.islandOf(text + "house m;house n;field 50;wants m a 99;");
        int[] drew = new int[10];
        for (int springs = 1; springs <= 12; springs++) {
            hat.spring(springs * 1234567);
            drew[hat.house(1, 0)]++;
            for (int worth = 0; worth <= 99; worth++) {
                int good = 0;
                int many = 0;
                for (int x = 0; x < 10; x++) {
                    good += x * 11 >= worth ? 1 : 0;
                    many += x * 11 >= worth ? drew[x] : 0;
                }
                luckIs(hat, worth, springs, good, many);
            }
        }
    }

    private void luckIs(NameHat hat, int worth, int springs, int good, int many) {
        BigInteger above = BigInteger.ZERO;
        for (int k = many; k <= springs; k++) {
            BigInteger ways = BigInteger.valueOf(good).pow(k).multiply(BigInteger.valueOf(10 - good).pow(springs - k));
            for (int i = 0; i < k; i++) {
                ways = ways.multiply(BigInteger.valueOf(springs - i));
            }
            for (int i = 0; i < k; i++) {
                ways = ways.divide(BigInteger.valueOf(i + 1));
            }
            above = above.add(ways);
        }
        BigInteger below = BigInteger.TEN.pow(springs);
        BigInteger most = above.gcd(below);
        check.due("luck() above", hat.luck(1, worth, 0), above.divide(most).longValueExact());
        check.due("luck() below", hat.luck(1, worth, 1), below.divide(most).longValueExact());
        check.due("luck() drew", hat.luck(1, worth, 2), many);
        // "no more than p by q": just as much is no more.
        for (int q = 1; q <= 999; q += worth % 9 == 0 ? 37 : 499) {
            int p = Math.min(999, above.multiply(BigInteger.valueOf(q)).divide(below).intValue());
            for (int one = Math.max(0, p - 1); one <= Math.min(999, p + 1); one++) {
                boolean fair = above.multiply(BigInteger.valueOf(q)).compareTo(below.multiply(BigInteger.valueOf(one))) > 0;
                check.due("unfair() of " + one + " by " + q, hat.unfair(1, worth, one, q), fair ? 0 : 1);
            }
        }
    }

    // ==== A new ISLAND, and one that is restored

    /** "A new ISLAND: SPRING 0, no BOOK"; "(told anew for each new ISLAND)": the same text again is a new one, too. */
    private void newIsland() {
        String text = "name a 4;name b 6;house m holds a;house n holds b;wants m b 9;wants n a 9;pews 2 8;";
        NameHat hat = check.islandOf(text);
        check.book(hat, "trade;", 1, 0);
        check.roll(hat, "m has a;", 1, 0);
        hat.ring();
        hat.seats();
        hat.go(1);
        hat.image(0);
        hat.spring(2);
        check.island(hat, text, 7, 0);
        check.due("SPRING 0", hat.count(5), 0);
        check.due("no BOOK", hat.count(8), 0);
        check.due("no ROLL", hat.count(6), 0);
        check.due("all DEALINGS fit", hat.dealings(), 2);
        check.due("held as told", hat.house(0, 0), 0);
        check.due("no SPRING that was", hat.held(0, 1), NameHat.NONE);
        check.due("no SPRING that was", hat.lapsed(2), NameHat.NONE);
        check.isMissing("no SPRING that was", () -> hat.luck(0, 0, 0));
        check.due("the first SPRING", hat.spring(3), 1);
        check.due("drawn since", hat.luck(0, 0, 2), 1);
        check.due("the latest ring()", hat.ringAt(1), 1);
        check.due("the latest seats()", hat.seatOf(1), 0);
        check.due("the latest go()", hat.went(1), 1);
        check.due("the image stays", hat.restore(0), true);
        check.due("the image's BOOK", hat.count(8), 1);
    }

    /** "(the tape, and what other calls told last, stays)". */
    private void restoring() {
        NameHat hat = check.islandOf("name a 4;name b 6;house m holds a;house n holds b;wants m b 9;wants n a 9;pews 2 8;");
        hat.image(0);
        check.island(hat, "name a 4;name b 6;name c 5;house l;house m holds a;house n holds b;house o holds c;"
            + "wants m b 9;wants m c 4;wants n c 9;wants o a 9;wants o b 5;pews 2 8;sits o 1;", 14, 0);
        check.due("ring()", hat.ring(), 3);
        check.due("seats()", hat.seats(), 0);
        check.book(hat, "drop l;", 1, 0);
        check.due("go(0)", hat.go(0), 0);
        check.roll(hat, "z has a;", -1, 3);
        Check.tell(hat, "name z 1;");
        check.due("restore(0)", hat.restore(0), true);
        check.due("fault()", hat.fault(), 3);
        check.due("ringAt(2)", hat.ringAt(2), 3);
        check.due("seatOf(3)", hat.seatOf(3), 1);
        check.due("went(0)", hat.went(0), 1);
        check.due("went(2)", hat.went(2), 15);
        check.due("the tape", hat.count(7), 9);
        check.due("two HOUSES now", hat.sit(), false);
        check.due("the tape is read", hat.island(), 1);
        check.due("WORTH", hat.surname(0, 0), 1);
    }
}
