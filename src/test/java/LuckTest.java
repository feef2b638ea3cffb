/** Promises 33, 34: luck, unfair. */
public final class LuckTest {
    public static void main(String[] args) {
        Check check = new Check();
        byHand(check);
        allWaysCounted(check);
        drawnNotHeld(check);
        notAsTold(check);
        check.end("LuckTest");
    }

    private static void byHand(Check check) {
        NameHat hat = check.islandOf("name p 1;name q 50 cursed;house a;");
        // The seeds whose draw is q, and p.
        int good = seedFor(1);
        int bad = seedFor(0);
        hat.spring(good);
        luckIs(check, hat, 0, 50, 1, 2, 1);
        luckIs(check, hat, 0, 51, 1, 1, 0);
        luckIs(check, hat, 0, 0, 1, 1, 1);
        hat.spring(good);
        luckIs(check, hat, 0, 50, 1, 4, 2);
        hat.spring(bad);
        luckIs(check, hat, 0, 50, 1, 2, 2);
        luckIs(check, hat, 0, 2, 1, 2, 2);
        luckIs(check, hat, 0, 1, 1, 1, 3);
        for (int s = 4; s <= 12; s++) {
            hat.spring(good);
        }
        luckIs(check, hat, 0, 50, 13, 4096, 11);
        check.due("unfair(13 by 999)", hat.unfair(0, 50, 13, 999), 1);
        check.due("unfair(3 by 945)", hat.unfair(0, 50, 3, 945), 1);
        check.due("unfair(3 by 946)", hat.unfair(0, 50, 3, 946), 0);
        check.due("unfair(0 by 1)", hat.unfair(0, 50, 0, 1), 0);
        check.due("unfair(1 by 1)", hat.unfair(0, 51, 1, 1), 1);
        check.due("unfair(998 by 999)", hat.unfair(0, 51, 998, 999), 0);
        check.due("unfair(999 by 1)", hat.unfair(0, 51, 999, 1), 1);
    }

    private static void luckIs(Check check, NameHat hat, int h, int worth, long above, long below, long drew) {
        check.due("luck(" + h + ", " + worth + ", 0)", hat.luck(h, worth, 0), above);
        check.due("luck(" + h + ", " + worth + ", 1)", hat.luck(h, worth, 1), below);
        check.due("luck(" + h + ", " + worth + ", 2)", hat.luck(h, worth, 2), drew);
        check.due("unfair at just so", above <= 999 && below <= 999 ? hat.unfair(h, worth, (int) above, (int) below) : 1, 1);
    }

    /** A seed by which the first HOUSE of two SURNAMES draws that one. */
    private static int seedFor(int x) {
        int seed = 0;
        while (((seed * 1103515245 + 12345) >>> 8) % 2 != x) {
            seed++;
        }
        return seed;
    }

    /** Ten SURNAMES: each number of good ones, the ways counted one by one. */
    private static void allWaysCounted(Check check) {
        StringBuilder text = new StringBuilder();
        for (int x = 0; x < 10; x++) {
            text.append("name ").append((char) ('a' + x)).append(' ').append(10 * x).append(';');
        }
        for (int h = 0; h < 8; h++) {
            text.append("house ").append((char) ('m' + h)).append(';');
        }
        NameHat hat = check.islandOf(text.toString());
        for (int springs = 1; springs <= 5; springs++) {
            hat.spring(31 * springs);
            int all = 1;
            for (int s = 0; s < springs; s++) {
                all *= 10;
            }
            for (int h = 0; h < 8; h++) {
                for (int worth = 0; worth <= 90; worth += 15) {
                    int drew = 0;
                    for (int s = 1; s <= springs; s++) {
                        drew += 10 * hat.held(h, s) >= worth ? 1 : 0;
                    }
                    int above = 0;
                    for (int way = 0; way < all; way++) {
                        int good = 0;
                        int rest = way;
                        for (int s = 0; s < springs; s++) {
                            good += 10 * (rest % 10) >= worth ? 1 : 0;
                            rest /= 10;
                        }
                        above += good >= drew ? 1 : 0;
                    }
                    int most = java.math.BigInteger.valueOf(above).gcd(java.math.BigInteger.valueOf(all)).intValue();
                    luckIs(check, hat, h, worth, above / most, all / most, drew);
                }
            }
        }
        for (int s = 6; s <= 12; s++) {
            hat.spring(s);
        }
        check.due("below of 12 SPRINGS", 1000000000000L % hat.luck(0, 90, 1), 0);
        check.due("luck() of all", hat.luck(0, 0, 0), 1);
        check.due("luck() of all, drawn", hat.luck(0, 0, 2), 12);
    }

    private static void drawnNotHeld(Check check) {
        NameHat hat = check.islandOf("name p 1;name q 50;house a;house b;house c;");
        hat.spring(seedFor(0));
        check.due("a drew p", hat.house(0, 0), 0);
        check.due("swap", hat.swap(0, 1), true);
        luckIs(check, hat, 0, 50, 1, 1, 0);
        luckIs(check, hat, 1, 50, 1, 2, 1);
        luckIs(check, hat, 2, 0, 1, 1, 0);
        hat.spring(seedFor(1));
        luckIs(check, hat, 0, 50, 3, 4, 1);
        luckIs(check, hat, 1, 50, 3, 4, 1);
    }

    private static void notAsTold(Check check) {
        NameHat hat = check.islandOf("name p 1;name q 50;house a holds q;house b;");
        check.isMissing("no SPRING", () -> hat.luck(0, 1, 0));
        check.due("no SPRING", hat.unfair(0, 1, 1, 1), NameHat.NONE);
        hat.spring(1);
        for (int[] none : new int[][] {{-1, 0, 0}, {2, 0, 0}, {0, -1, 0}, {0, 100, 0}, {0, 0, 3}, {0, 0, -1}}) {
            check.isMissing("luck(" + none[0] + ", " + none[1] + ", " + none[2] + ")",
                () -> hat.luck(none[0], none[1], none[2]));
        }
        check.due("luck(0, 99, 2)", hat.luck(0, 99, 2), 0);
        int[][] wrong = {{-1, 0, 1, 1}, {2, 0, 1, 1}, {0, -1, 1, 1}, {0, 100, 1, 1}, {0, 0, -1, 1}, {0, 0, 1000, 1},
            {0, 0, 1, 0}, {0, 0, 1, 1000}, {0, 0, 1, -1}};
        for (int[] one : wrong) {
            check.due("unfair not as told", hat.unfair(one[0], one[1], one[2], one[3]), NameHat.NONE);
        }
        check.due("unfair(0, 0, 999, 999)", hat.unfair(0, 0, 999, 999), 1);
        for (int s = 2; s <= 12; s++) {
            hat.spring(s);
        }
        check.due("12 SPRINGS", hat.luck(0, 0, 2), 12);
        hat.spring(13);
        check.isMissing("13 SPRINGS", () -> hat.luck(0, 0, 2));
        check.due("13 SPRINGS", hat.unfair(0, 0, 1, 1), NameHat.NONE);
    }
}
