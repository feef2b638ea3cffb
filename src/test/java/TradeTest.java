/** Promises 11 to 14, 19, 20: swap, ring, ringAt, trade, envy, worth. */
public final class TradeTest {
    public static void main(String[] args) {
        Check check = new Check();
        swaps(check);
        rings(check);
        ringsStay(check);
        trades(check);
        allInOneCircle(check);
        envies(check);
        check.end("TradeTest");
    }

    private static void swaps(Check check) {
        NameHat hat = check.islandOf("name p 1;name q 2;name r 3 pawned;name s 4 cursed;"
            + "house a holds p;house b holds q;house c holds r;house d;house e holds s;");
        check.due("swap(0, 0)", hat.swap(0, 0), false);
        check.due("swap(0, 2) pawned", hat.swap(0, 2), false);
        check.due("swap(2, 0) pawned", hat.swap(2, 0), false);
        check.due("swap(0, 3) nothing", hat.swap(0, 3), false);
        check.due("swap(3, 0) nothing", hat.swap(3, 0), false);
        check.due("swap(0, 5)", hat.swap(0, 5), false);
        check.due("swap(5, 0)", hat.swap(5, 0), false);
        check.due("swap(-1, 0)", hat.swap(-1, 0), false);
        check.due("swap(0, -1)", hat.swap(0, -1), false);
        check.due("stays", hat.house(0, 0), 0);
        check.due("worth()", hat.worth(), 1 + 2 + 3 - 4);
        check.due("swap(0, 1)", hat.swap(0, 1), true);
        check.due("house(0, 0)", hat.house(0, 0), 1);
        check.due("house(1, 0)", hat.house(1, 0), 0);
        check.due("swap(4, 0), a cursed one too", hat.swap(4, 0), true);
        check.due("house(4, 0)", hat.house(4, 0), 1);
        check.due("house(0, 0)", hat.house(0, 0), 3);
    }

    private static void rings(Check check) {
        String names = "name p 5;name q 5;name r 5;name s 5;";
        String houses = "house a holds p;house b holds q;house c holds r;house d holds s;";
        NameHat hat = check.islandOf(names + houses);
        check.due("like VALUES: no RING", hat.ring(), NameHat.NONE);
        check.due("ringAt(0) ahead of any", hat.ringAt(0), NameHat.NONE);
        // b and d would swap; a, b, c make a longer one.
        hat = check.islandOf(names + houses + "wants b s 9;wants d q 9;wants a q 9;wants b r 9;wants c p 9;");
        ringIs(check, hat, 1, 3);
        // Three of a, d, b: told as a, b, d or as a, d, b by who wants what.
        hat = check.islandOf(names + houses + "wants a s 9;wants d q 9;wants b p 9;");
        ringIs(check, hat, 0, 3, 1);
        hat = check.islandOf(names + houses + "wants a q 9;wants b s 9;wants d p 9;wants a s 9;wants d q 9;");
        ringIs(check, hat, 0, 3);
        hat = check.islandOf(names + houses + "wants a q 9;wants b r 9;wants c s 9;wants d p 9;");
        ringIs(check, hat, 0, 1, 2, 3);
        hat = check.islandOf(names + houses + "wants a q 9;wants b r 9;wants c s 9;wants d q 9;");
        ringIs(check, hat, 1, 2, 3);
        // Of like long ones the first, HOUSE by HOUSE the lesser.
        hat = check.islandOf(names + houses + "wants a q 9;wants a r 9;wants b s 9;wants c s 9;wants d p 9;");
        ringIs(check, hat, 0, 1, 3);
        hat = check.islandOf("name p 5;name q 5 pawned;house a holds p;house b holds q;wants a q 9;wants b p 9;");
        check.due("pawned: no RING", hat.ring(), NameHat.NONE);
        hat = check.islandOf("name p 5;house a holds p;house b;wants b p 9;");
        check.due("who holds nothing is in none", hat.ring(), NameHat.NONE);
    }

    private static void ringIs(Check check, NameHat hat, int... due) {
        int before = hat.worth();
        check.due("ring()", hat.ring(), due.length);
        for (int i = 0; i < due.length; i++) {
            check.due("ringAt(" + i + ")", hat.ringAt(i), due[i]);
        }
        check.due("ringAt(-1)", hat.ringAt(-1), NameHat.NONE);
        check.due("ringAt(" + due.length + ")", hat.ringAt(due.length), NameHat.NONE);
        check.due("ring() takes nothing", hat.worth(), before);
    }

    private static void ringsStay(Check check) {
        NameHat hat = check.islandOf("name p 5;name q 6;name r 5;house c holds r;house a holds p;house b holds q;"
            + "wants a q 9;wants b p 9;");
        ringIs(check, hat, 1, 2);
        check.due("swap", hat.swap(1, 2), true);
        check.due("none now", hat.ring(), NameHat.NONE);
        check.due("ringAt(0) stays", hat.ringAt(0), 1);
        check.island(hat, "", 0, 0);
        check.due("ringAt(1) stays", hat.ringAt(1), 2);
        check.due("none on an empty ISLAND", hat.ring(), NameHat.NONE);
        check.due("ringAt(2)", hat.ringAt(2), NameHat.NONE);
    }

    private static void trades(Check check) {
        NameHat hat = check.islandOf("name p 5;name q 6;name r 7;name s 9 pawned;name t 1;house a holds p;"
            + "house b holds q;house c holds r;house d holds s;house e holds t;house f;"
            + "wants a q 9;wants b p 9;wants c q 20;wants d p 50;wants e s 60;");
        // a and b take each other's; then c keeps r, and e, who wants r most, keeps t.
        check.due("trade()", hat.trade(), 1);
        int[] due = {1, 0, 2, 3, 4, -1};
        for (int h = 0; h < due.length; h++) {
            check.due("house(" + h + ", 0)", hat.house(h, 0), due[h]);
        }
        check.due("trade() again", hat.trade(), 0);
        // Of like ones its own: none moves, though all are as good.
        hat = check.islandOf("name p 5;name q 5;house a holds p;house b holds q;");
        check.due("like ones", hat.trade(), 0);
        check.due("like ones", hat.house(0, 0), 0);
        // Else the least HOUSE: c points to a, not to b, and a to c.
        hat = check.islandOf("name p 5;name q 5;name r 1;house a holds p;house b holds q;house c holds r;wants a r 9;"
            + "wants b r 9;");
        check.due("the least HOUSE", hat.trade(), 1);
        check.due("the least HOUSE", hat.house(0, 0), 2);
        check.due("the least HOUSE", hat.house(1, 0), 1);
        check.due("the least HOUSE", hat.house(2, 0), 0);
        // Two circles at once, and one more of what is left then.
        hat = check.islandOf("name p 1;name q 1;name r 1;name s 1;name t 1;name u 1;house a holds p;house b holds q;"
            + "house c holds r;house d holds s;house e holds t;house f holds u;wants a q 9;wants b p 9;wants c s 9;"
            + "wants d r 9;wants e p 9;wants e u 8;wants f r 9;wants f t 8;");
        check.due("three circles", hat.trade(), 3);
        int[] three = {1, 0, 3, 2, 5, 4};
        for (int h = 0; h < three.length; h++) {
            check.due("house(" + h + ", 0)", hat.house(h, 0), three[h]);
        }
        check.due("nobody holds anything", check.islandOf("name p 1;house a;").trade(), 0);
    }

    private static void allInOneCircle(Check check) {
        StringBuilder text = new StringBuilder();
        for (int i = 0; i < 8; i++) {
            text.append("name ").append((char) ('a' + i)).append(" 1;house ").append((char) ('m' + i)).append(" holds ")
                .append((char) ('a' + i)).append(';');
        }
        for (int i = 0; i < 8; i++) {
            text.append("wants ").append((char) ('m' + i)).append(' ').append((char) ('a' + (i + 3) % 8)).append(" 9;");
        }
        NameHat hat = check.islandOf(text.toString());
        ringIs(check, hat, 0, 3, 6, 1, 4, 7, 2, 5);
        check.due("trade() of eight", hat.trade(), 1);
        for (int h = 0; h < 8; h++) {
            check.due("house(" + h + ", 0)", hat.house(h, 0), (h + 3) % 8);
        }
    }

    private static void envies(Check check) {
        NameHat hat = check.islandOf("name p 5;name q 6;name r 7 cursed;name s 9 pawned;house a holds p;house b holds q;"
            + "house c holds r;house d holds s;house e;");
        check.due("envy(0): c, e", hat.envy(0), 2);
        check.due("envy(1): a, c, e", hat.envy(1), 3);
        check.due("envy(2): none, less than 0", hat.envy(2), 0);
        check.due("envy(3): all, pawned too", hat.envy(3), 4);
        check.due("envy(4): holds nothing", hat.envy(4), NameHat.NONE);
        check.due("envy(5)", hat.envy(5), NameHat.NONE);
        check.due("envy(-1)", hat.envy(-1), NameHat.NONE);
        check.due("worth()", hat.worth(), 5 + 6 - 7 + 9);
        check.due("worth() of none", new NameHat().worth(), 0);
        // A VALUE of 0 is not more than nothing.
        hat = check.islandOf("name p 0;house a holds p;house b;");
        check.due("envy of 0", hat.envy(0), 0);
    }
}
