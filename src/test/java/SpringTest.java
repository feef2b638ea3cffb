/** Promises 9, 10, 18, 31, 32: spring, held, keeper, grave, lapsed. */
public final class SpringTest {
    private static final String NAMES = "name p 1;name q 2;name r 3;name s 4;name t 5 pawned;";
    private static final String HOUSES = "house a holds q;house b;house c holds p;";

    public static void main(String[] args) {
        Check check = new Check();
        drawsBySeed(check);
        tooFew(check);
        mostSprings(check);
        keepsTheEnd(check);
        graves(check);
        lapses(check);
        check.end("SpringTest");
    }

    /** The draws told anew from the document's own words. */
    private static int[] drawsDue(int seed, int surnames, int houses) {
        java.util.ArrayList<Integer> hat = new java.util.ArrayList<>();
        for (int x = 0; x < surnames; x++) {
            hat.add(x);
        }
        int[] drawn = new int[houses];
        int x = seed;
        for (int h = 0; h < houses; h++) {
            if (hat.isEmpty()) {
                drawn[h] = NameHat.NONE;
                continue;
            }
            x = x * 1103515245 + 12345;
            drawn[h] = hat.remove((x >>> 8) % hat.size());
        }
        return drawn;
    }

    private static void drawsBySeed(Check check) {
        NameHat hat = check.islandOf(NAMES + HOUSES);
        int[] seeds = {0, 1, -1, 9, 12345, Integer.MAX_VALUE, Integer.MIN_VALUE, 77777777};
        for (int i = 0; i < seeds.length; i++) {
            check.due("spring(" + seeds[i] + ")", hat.spring(seeds[i]), i + 1);
            int[] due = drawsDue(seeds[i], 5, 3);
            for (int h = 0; h < 3; h++) {
                check.due("seed " + seeds[i] + ": house(" + h + ", 0)", hat.house(h, 0), due[h]);
                check.due("seed " + seeds[i] + ": surname", hat.surname(due[h], 2), h);
            }
        }
        check.due("count(5)", hat.count(5), seeds.length);
        // One draw by hand: 1 * 1103515245 + 12345 = 1103527590; >>> 8 is 4310654; % 5 is 4.
        hat = check.islandOf(NAMES + HOUSES);
        hat.spring(1);
        check.due("by hand", hat.house(0, 0), 4);
    }

    private static void tooFew(Check check) {
        NameHat hat = check.islandOf("name p 5;name q 5;house a;house b;house c;house d holds p;");
        check.due("spring(4)", hat.spring(4), 1);
        int[] due = drawsDue(4, 2, 4);
        for (int h = 0; h < 4; h++) {
            check.due("house(" + h + ", 0)", hat.house(h, 0), due[h]);
        }
        check.due("left without", hat.house(3, 0), NameHat.NONE);
        hat = check.islandOf("house a;");
        check.due("no SURNAMES", hat.spring(1), NameHat.NONE);
        hat = check.islandOf("name p 5;");
        check.due("no HOUSES", hat.spring(1), 1);
        check.due("no HOUSES", hat.lapsed(2), 1);
    }

    private static void mostSprings(Check check) {
        NameHat hat = check.islandOf(NAMES + HOUSES);
        for (int s = 1; s <= 24; s++) {
            check.due("spring " + s, hat.spring(s), s);
        }
        int kept = hat.house(0, 0);
        check.due("spring 25", hat.spring(25), NameHat.NONE);
        check.due("stays", hat.house(0, 0), kept);
        check.due("count(5)", hat.count(5), 24);
        for (int s = 1; s <= 24; s++) {
            int[] due = drawsDue(s, 5, 3);
            for (int h = 0; h < 3; h++) {
                check.due("held(" + h + ", " + s + ")", hat.held(h, s), due[h]);
                check.due("keeper", hat.keeper(due[h], s), h);
            }
        }
        check.due("held(0, 25)", hat.held(0, 25), NameHat.NONE);
        check.due("lapsed(26)", hat.lapsed(26), NameHat.NONE);
        check.due("lapsed(25)", hat.lapsed(25), 0);
    }

    private static void keepsTheEnd(Check check) {
        NameHat hat = check.islandOf(NAMES + HOUSES);
        check.due("held(0, 0)", hat.held(0, 0), 1);
        check.due("swap", hat.swap(0, 2), true);
        check.due("held(0, 0) as it is", hat.held(0, 0), 0);
        check.due("keeper(1, 0) as it is", hat.keeper(1, 0), 2);
        check.due("held(1, 0)", hat.held(1, 0), NameHat.NONE);
        check.due("keeper(2, 0)", hat.keeper(2, 0), NameHat.NONE);
        hat.spring(1);
        check.due("held(0, 0) as it was", hat.held(0, 0), 0);
        check.due("held(1, 0) as it was", hat.held(1, 0), NameHat.NONE);
        check.due("held(2, 0) as it was", hat.held(2, 0), 1);
        check.due("keeper(0, 0) as it was", hat.keeper(0, 0), 0);
        check.due("keeper(2, 0) as it was", hat.keeper(2, 0), NameHat.NONE);
        for (int[] none : new int[][] {{-1, 0}, {3, 0}, {0, -1}, {0, 2}, {8, 0}, {0, 99}}) {
            check.due("held(" + none[0] + ", " + none[1] + ")", hat.held(none[0], none[1]), NameHat.NONE);
        }
        hat.spring(2);
        hat.spring(3);
        for (int[] none : new int[][] {{3, 0}, {8, 0}, {9, 0}, {10, 0}, {16, 0}, {8, -1}, {-8, 1}, {-7, 2}, {0, 4}}) {
            check.due("held(" + none[0] + ", " + none[1] + ")", hat.held(none[0], none[1]), NameHat.NONE);
        }
        for (int[] none : new int[][] {{-1, 0}, {5, 0}, {0, -1}, {0, 4}, {-1, 1}, {10, 0}}) {
            check.due("keeper(" + none[0] + ", " + none[1] + ")", hat.keeper(none[0], none[1]), NameHat.NONE);
        }
    }

    private static void bytes(NameHat hat, int... bytes) {
        StringBuilder text = new StringBuilder();
        for (int one : bytes) {
            text.append((char) one);
        }
        Check.tell(hat, text.toString());
    }

    private static void graves(Check check) {
        NameHat hat = check.islandOf(NAMES + HOUSES);
        check.due("no pairs: all HOUSES", hat.grave(), 7);
        bytes(hat, 0, 1);
        check.due("q in 0", hat.grave(), 1);
        check.due("count(7) behind grave()", hat.count(7), 0);
        bytes(hat, 0, 0);
        check.due("p in 0", hat.grave(), 4);
        bytes(hat, 0, 2);
        check.due("r in 0", hat.grave(), 0);
        bytes(hat, 0, 0, 0, 1);
        check.due("p and q in 0", hat.grave(), 0);
        hat.spring(3);
        hat.spring(4);
        int[] first = {hat.held(0, 1), hat.held(1, 1), hat.held(2, 1)};
        int[] second = {hat.held(0, 2), hat.held(1, 2), hat.held(2, 2)};
        for (int h = 0; h < 3; h++) {
            for (int g = 0; g < 3; g++) {
                bytes(hat, 1, first[h], 2, second[g]);
                check.due("both", hat.grave(), h == g ? 1 << h : 0);
            }
        }
        bytes(hat, 0, 1, 1, first[0], 2, second[0]);
        check.due("three of one", hat.grave(), 1);
        int[] twenty = new int[40];
        int[] more = new int[42];
        for (int i = 1; i < 42; i += 2) {
            more[i] = 1;
            if (i < 40) {
                twenty[i] = 1;
            }
        }
        bytes(hat, twenty);
        check.due("20 pairs", hat.grave(), 1);
        bytes(hat, more);
        check.due("21 pairs", hat.grave(), NameHat.NONE);
        check.due("count(7) behind them", hat.count(7), 0);
        for (int[] wrong : new int[][] {{0}, {0, 1, 0}, {3, 0}, {0, 5}, {255, 0}, {0, 255}, {0, 2, 0, 5}}) {
            bytes(hat, wrong);
            check.due("not as told", hat.grave(), NameHat.NONE);
            check.due("count(7) behind it", hat.count(7), 0);
        }
    }

    private static void lapses(Check check) {
        NameHat hat = check.islandOf(NAMES + HOUSES);
        check.due("lapsed(0)", hat.lapsed(0), NameHat.NONE);
        check.due("lapsed(-1)", hat.lapsed(-1), NameHat.NONE);
        check.due("lapsed(1)", hat.lapsed(1), 4 + 8 + 16);
        check.due("all of them", check.islandOf(NAMES + "house a;house b;").lapsed(1), 31);
        check.due("lapsed(2)", hat.lapsed(2), NameHat.NONE);
        hat.spring(3);
        hat.spring(8);
        for (int n = 1; n <= 3; n++) {
            int due = 31;
            for (int s = 2; s > 2 - n; s--) {
                for (int h = 0; h < 3; h++) {
                    due &= hat.held(h, s) < 0 ? -1 : ~(1 << hat.held(h, s));
                }
            }
            check.due("lapsed(" + n + ")", hat.lapsed(n), due);
        }
        check.due("lapsed(4)", hat.lapsed(4), NameHat.NONE);
    }
}
