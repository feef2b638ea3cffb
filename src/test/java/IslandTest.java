/** Promises 4 to 8: island, fault, surname, house, value. */
public final class IslandTest {
    private static final String NAMES = "name p 10;name q 20;name r 5 cursed;name s 30 pawned;";
    private static final String HOUSES = "house a holds p;house b holds q;house c;";

    public static void main(String[] args) {
        Check check = new Check();
        whatIsTold(check);
        tokens(check);
        mostBytes(check);
        lines(check);
        numbers(check);
        names(check);
        tooMany(check);
        faultsLeaveTheIsland(check);
        check.end("IslandTest");
    }

    private static void whatIsTold(Check check) {
        NameHat hat = new NameHat();
        check.island(hat, NAMES + HOUSES + "wants a q 50;wants c r 2;wants b r 99;wants c p 0;"
            + "feud p q;feud s p;pews 3 2;sits b 2;field 7;", 16, 0);
        int[][] due = {{10, 0, 0, 10}, {20, 0, 1, 1}, {5, 1, -1, 0}, {30, 2, -1, 1}};
        for (int x = 0; x < 4; x++) {
            for (int what = 0; what < 4; what++) {
                check.due("surname(" + x + ", " + what + ")", hat.surname(x, what), due[x][what]);
            }
        }
        check.isMissing("surname(4, 0)", () -> hat.surname(4, 0));
        check.isMissing("surname(-1, 0)", () -> hat.surname(-1, 0));
        check.isMissing("surname(0, 4)", () -> hat.surname(0, 4));
        check.isMissing("surname(0, -1)", () -> hat.surname(0, -1));
        int[][] houses = {{0, 0}, {1, 2}, {-1, 0}};
        for (int h = 0; h < 3; h++) {
            check.due("house(" + h + ", 0)", hat.house(h, 0), houses[h][0]);
            check.due("house(" + h + ", 1)", hat.house(h, 1), houses[h][1]);
        }
        check.isMissing("house(3, 0)", () -> hat.house(3, 0));
        check.isMissing("house(-1, 0)", () -> hat.house(-1, 0));
        check.isMissing("house(0, 2)", () -> hat.house(0, 2));
        check.isMissing("house(0, -1)", () -> hat.house(0, -1));
        int[][] values = {{10, 50, 2, 30}, {10, 20, -92, 30}, {0, 20, 5, 30}};
        for (int h = 0; h < 3; h++) {
            for (int x = 0; x < 4; x++) {
                check.due("value(" + h + ", " + x + ")", hat.value(h, x), values[h][x]);
            }
        }
        check.isMissing("value(3, 0)", () -> hat.value(3, 0));
        check.isMissing("value(-1, 0)", () -> hat.value(-1, 0));
        check.isMissing("value(0, 4)", () -> hat.value(0, 4));
        check.isMissing("value(0, -1)", () -> hat.value(0, -1));
        check.due("count(2)", hat.count(2), 3);
        check.due("count(3)", hat.count(3), 2);
        check.due("count(4)", hat.count(4), 7);
        check.island(hat, "name r 1;name s 2;name t 3;name u 4;house a;house b;", 6, 0);
        for (int x = 0; x < 4; x++) {
            check.due("plain now: " + x, hat.surname(x, 1), 0);
            check.due("held by none now: " + x, hat.surname(x, 2), NameHat.NONE);
            check.due("no feuds now: " + x, hat.surname(x, 3), 0);
            check.due("no wants now: " + x, hat.value(0, x), x + 1);
            check.due("in PEW 0 now", hat.house(1, 1), 0);
        }
        check.island(hat, "", 0, 0);
        for (int what = 0; what < 9; what++) {
            check.due("empty again: count(" + what + ")", hat.count(what), what == 2 ? 1 : what == 3 ? 8 : 0);
        }
    }

    private static void tokens(Check check) {
        NameHat hat = new NameHat();
        check.island(hat, "\n name\n\np 01 ;\n\n  ", 1, 0);
        check.due("01 is 1", hat.surname(0, 0), 1);
        check.island(hat, "name p 00;", 1, 0);
        check.island(hat, "name abcdefg 1;", 1, 0);
        check.island(hat, "name abcdefgh 1;", -6, 1);
        check.island(hat, "name p1 1;", -6, 1);
        check.island(hat, "name 1p 1;", -6, 1);
        check.island(hat, "name p 100;", -8, 1);
        check.island(hat, "name p 001;", -8, 1);
        check.island(hat, "name p 1a;", -8, 1);
        check.island(hat, "namep 1;", -1, 1);
        check.island(hat, "name\tp 1;", -5, 1);
        check.island(hat, "name p 1.", -9, 1);
        check.island(hat, "name P 1;", -6, 1);
        check.island(hat, "name \u00e9 1;", -6, 1);
        check.island(hat, "name \u0000 1;", -6, 1);
        check.island(hat, "name p -1;", -8, 1);
        check.island(hat, "name z 1; name p{ 1;", -17, 1);
        check.island(hat, "name z 1; name `p 1;", -16, 1);
        check.island(hat, "name p /1;", -8, 1);
        check.island(hat, "name p 1:;", -9, 1);
        check.island(hat, ";", -1, 1);
        check.island(hat, "name p 1;;", -10, 1);
        check.island(hat, "name p 1 ", -10, 1);
        check.island(hat, "name p 1 \n\n", -12, 1);
        check.island(hat, "5", -1, 1);
    }

    private static void mostBytes(Check check) {
        NameHat hat = new NameHat();
        String line = "name p 1;";
        check.island(hat, line + Check.many(" ", 891), 1, 0);
        check.island(hat, line + Check.many(" ", 892), -901, 1);
        check.island(hat, line + Check.many(" ", 930), -901, 1);
        check.island(hat, line + Check.many(" ", 890) + "?" + "    ", -900, 1);
        check.island(hat, line + Check.many(" ", 891) + "?", -901, 1);
        check.island(hat, line + Check.many(" ", 887) + "name", -901, 1);
        // A TOKEN that begins ahead of byte 900 is read whole.
        check.island(hat, line + Check.many(" ", 888) + "name q 1;", -901, 1);
        check.island(hat, line + Check.many(" ", 883) + "name abcdefg 1;", -901, 1);
        check.island(hat, line + Check.many(" ", 883) + "name abcdefgh 1;", -898, 1);
        check.island(hat, line + Check.many(" ", 883) + "house pews;", -899, 1);
        check.island(hat, line + Check.many(" ", 883) + "house p;", -899, 3);
        check.island(hat, line + Check.many(" ", 884) + "house p;", -900, 3);
        check.island(hat, line + Check.many(" ", 885) + "house p;", -901, 1);
        check.island(hat, "?" + Check.many(" ", 939), -1, 1);
    }

    private static void lines(Check check) {
        NameHat hat = new NameHat();
        check.island(hat, "name", -5, 1);
        check.island(hat, "house", -6, 1);
        check.island(hat, "wants", -6, 1);
        check.island(hat, "feud", -5, 1);
        check.island(hat, "pews", -5, 1);
        check.island(hat, "sits", -5, 1);
        check.island(hat, "field", -6, 1);
        check.island(hat, "5;", -1, 1);
        for (String word : new String[] {"name", "house", "wants", "feud", "pews", "sits", "field"}) {
            check.island(hat, word + ";", -1 - word.length(), 1);
            check.island(hat, word, -1 - word.length(), 1);
            check.island(hat, "7 1;", -1, 1);
        }
        check.island(hat, "name p;", -7, 1);
        check.island(hat, "name p 1 1;", -10, 1);
        check.island(hat, "name p 1 cursed pawned;", -17, 1);
        check.island(hat, "name p 1 holds;", -10, 1);
        check.island(hat, "house h holds;", -14, 1);
        check.island(hat, "house h h;", -9, 1);
        check.island(hat, "house h 1;", -9, 1);
        check.island(hat, NAMES + HOUSES + "wants a;", -101, 1);
        check.island(hat, NAMES + HOUSES + "wants a p;", -103, 1);
        check.island(hat, NAMES + HOUSES + "wants a p q;", -104, 1);
        check.island(hat, NAMES + HOUSES + "wants a p 1 2;", -106, 1);
        check.island(hat, NAMES + HOUSES + "feud p 1;", -101, 1);
        check.island(hat, NAMES + HOUSES + "feud p q 1;", -103, 1);
        check.island(hat, "pews 1;", -7, 1);
        check.island(hat, "pews a 1;", -6, 1);
        check.island(hat, "pews 1 1 1;", -10, 1);
        check.island(hat, "field a;", -7, 1);
        check.island(hat, "field 1 1;", -9, 1);
        check.island(hat, NAMES + HOUSES + "sits a;", -100, 1);
        check.island(hat, NAMES + HOUSES + "sits a 0 0;", -103, 1);
        for (String word : new String[] {"fly", "cursed", "pawned", "holds", "has", "not", "swap", "give", "drop",
            "take", "trade"}) {
            check.island(hat, word + " p 1;", -1, 1);
        }
        for (String word : new String[] {"name", "cursed", "pawned", "house", "holds", "wants", "feud", "pews", "sits",
            "field", "has", "not", "swap", "give", "drop", "take", "trade"}) {
            check.island(hat, "name " + word + " 1;", -6, 1);
            check.island(hat, "house " + word + ";", -7, 1);
            check.island(hat, "name p 1;feud p " + word + ";", -17, 1);
            check.island(hat, "name p 1;house a holds " + word + ";", -24, 1);
            check.island(hat, "wants " + word + " p 1;", -7, 1);
        }
        for (String word : new String[] {"names", "nam", "surname", "seats", "line", "behind", "with"}) {
            check.island(hat, "name " + word + " 1;", 1, 0);
        }
    }

    private static void numbers(Check check) {
        NameHat hat = new NameHat();
        check.island(hat, "pews 0 1;", -6, 2);
        check.island(hat, "pews 5 1;", -6, 2);
        check.island(hat, "pews 5;", -6, 2);
        check.island(hat, "pews 1 0;", -8, 2);
        check.island(hat, "pews 1 9;", -8, 2);
        check.island(hat, "pews 4 8;house h;sits h 3;", 3, 0);
        check.due("pews 4", hat.count(2), 4);
        check.due("seats 8", hat.count(3), 8);
        check.island(hat, "pews 1 1;house h;sits h 0;", 3, 0);
        check.island(hat, "pews 4 8;house h;sits h 4;", -25, 2);
        check.island(hat, "house h;sits h 1;", -16, 2);
        check.island(hat, "house h;sits h 0;", 2, 0);
        check.island(hat, "field 99;name p 99 cursed;house h holds p;", 3, 0);
        check.due("field 99", hat.count(4), 99);
        check.due("value", hat.value(0, 0), 0);
        check.island(hat, "field 0;", 1, 0);
    }

    private static void names(Check check) {
        NameHat hat = new NameHat();
        check.island(hat, "name p 1;name p 1;", -15, 3);
        check.island(hat, "name p 1;house p;", -16, 3);
        check.island(hat, "house p;name p 1;", -14, 3);
        check.island(hat, "house p;house p;", -15, 3);
        check.island(hat, "house h holds p;", -15, 3);
        check.island(hat, "house h holds h;", -15, 3);
        check.island(hat, "house g;house h holds g;", -23, 3);
        check.island(hat, "name p 1;house h holds p;house i holds p;", -40, 3);
        check.island(hat, "wants h p 1;", -7, 3);
        check.island(hat, "name p 1;wants p p 1;", -16, 3);
        check.island(hat, "name p 1;house h;wants h h 1;", -26, 3);
        check.island(hat, "name p 1;house h;wants h p 1;wants h p 2;", -38, 3);
        check.island(hat, "name p 1;house h;wants h p 0;wants h p 2;", -38, 3);
        check.island(hat, "name p 1;house h;house i;wants h p 1;wants i p 2;", 5, 0);
        check.island(hat, "name p 1;feud q p;", -15, 3);
        check.island(hat, "name p 1;feud p p;", -17, 3);
        check.island(hat, "name p 1;name q 1;feud p q;feud q p;", -35, 3);
        check.island(hat, "name p 1;name q 1;feud p q;feud p q;", -35, 3);
        check.island(hat, "name p 1;house h;feud p h;", -25, 3);
        check.island(hat, "pews 1 1;pews 1 1;", -10, 3);
        check.island(hat, "pews 1 1;pews 9 1;", -10, 3);
        check.island(hat, "house h;sits h 0;pews 2 2;", -18, 3);
        check.island(hat, "sits h 0;", -6, 3);
        check.island(hat, "name h 1;sits h 0;", -15, 3);
        check.island(hat, "house h;sits h 0;sits h 0;", -23, 3);
        check.island(hat, "house h;house i;sits i 0;sits h 0;", 4, 0);
        check.island(hat, "field 5;field 6;", -9, 3);
        check.island(hat, "field 0;field", -9, 3);
        // Lookalikes: NAMES are told apart by all their letters.
        check.island(hat, "name a 1;name aa 2;name ab 3;name b 4;name zzzzzzz 5;name zzzzzzy 6;", 6, 0);
        check.due("zzzzzzy", hat.surname(5, 0), 6);
    }

    private static void tooMany(Check check) {
        NameHat hat = new NameHat();
        StringBuilder ten = new StringBuilder();
        StringBuilder eight = new StringBuilder();
        for (char c = 'a'; c < 'k'; c++) {
            ten.append("name ").append(c).append(" 1;");
        }
        for (char c = 'm'; c < 'u'; c++) {
            eight.append("house ").append(c).append(';');
        }
        check.island(hat, ten.toString() + eight, 18, 0);
        check.due("count(0)", hat.count(0), 10);
        check.due("count(1)", hat.count(1), 8);
        check.island(hat, ten + "name z 1;", -91, 4);
        check.island(hat, ten + "name a 1;", -91, 4);
        check.island(hat, ten + "name", -91, 4);
        check.island(hat, eight + "house z;", -65, 4);
        check.island(hat, eight + "house", -65, 4);
        check.island(hat, eight + "name z 1;", 9, 0);
    }

    private static void faultsLeaveTheIsland(Check check) {
        NameHat hat = check.islandOf(NAMES + HOUSES + "pews 2 4;field 3;");
        hat.spring(5);
        int first = hat.house(0, 0);
        check.island(hat, "name z 1;house y;pews 4 1;field 1;?", -35, 1);
        check.due("count(0) stays", hat.count(0), 4);
        check.due("count(1) stays", hat.count(1), 3);
        check.due("count(2) stays", hat.count(2), 2);
        check.due("count(3) stays", hat.count(3), 4);
        check.due("count(4) stays", hat.count(4), 3);
        check.due("count(5) stays", hat.count(5), 1);
        check.due("house(0, 0) stays", hat.house(0, 0), first);
        check.due("surname(0, 0) stays", hat.surname(0, 0), 10);
        check.due("fault() stays", hat.fault(), 1);
        check.book(hat, "trade;", 1, 0);
        check.roll(hat, "a has p;", 1, 0);
        check.island(hat, NAMES + HOUSES, 7, 0);
        check.due("a new ISLAND: SPRING", hat.count(5), 0);
        check.due("a new ISLAND: ROLL", hat.count(6), 0);
        check.due("a new ISLAND: BOOK", hat.count(8), 0);
        check.due("a new ISLAND: PEWS", hat.count(2), 1);
        check.due("a new ISLAND: held", hat.house(0, 0), 0);
        check.due("a new ISLAND: dealings()", hat.dealings(), 24);
    }
}
