/** Promises 27 to 30: roll, dealings, dealt, could. */
public final class RollTest {
    private static final String ISLAND = "name p 1;name q 1;name r 1;name s 1;house a;house b;house c;";

    public static void main(String[] args) {
        Check check = new Check();
        faults(check);
        counts(check);
        mostOfAll(check);
        check.end("RollTest");
    }

    private static void faults(Check check) {
        NameHat hat = check.islandOf(ISLAND);
        check.roll(hat, "", 0, 0);
        check.roll(hat, "a has p; b not q;\nc not r;", 3, 0);
        check.due("count(6)", hat.count(6), 3);
        check.roll(hat, "a", -2, 1);
        check.roll(hat, "a has", -6, 1);
        check.roll(hat, "a has p", -8, 1);
        check.roll(hat, "a has p p;", -9, 1);
        check.roll(hat, "a holds p;", -3, 1);
        check.roll(hat, "a p;", -3, 1);
        check.roll(hat, "a 1;", -3, 1);
        check.roll(hat, "p has p;", -1, 3);
        check.roll(hat, "z has p;", -1, 3);
        check.roll(hat, "has has p;", -1, 1);
        check.roll(hat, "1 has p;", -1, 1);
        check.roll(hat, "a has a;", -7, 3);
        check.roll(hat, "a not z;", -7, 3);
        check.roll(hat, "a not not;", -7, 1);
        check.roll(hat, ";", -1, 1);
        check.roll(hat, "a has p;;", -9, 1);
        check.due("the ROLL stays", hat.count(6), 3);
        check.due("the ROLL stays", hat.dealt(0, 0), hat.dealings());
        check.roll(hat, Check.many("a not p;", 30), 30, 0);
        check.due("count(6)", hat.count(6), 30);
        check.roll(hat, Check.many("a not p;", 31), -241, 4);
        check.roll(hat, Check.many("a not p;", 30) + "a", -241, 4);
        check.roll(hat, Check.many("a not p;", 30) + "z has p;", -241, 3);
        check.roll(hat, Check.many("a not p;", 30) + "not has p;", -241, 1);
        check.roll(hat, "a has p;" + Check.many(" ", 392), 1, 0);
        check.roll(hat, "a has p;" + Check.many(" ", 393), -401, 1);
        check.roll(hat, "a has p;" + Check.many(" ", 390) + "a not q;", -401, 1);
        check.island(hat, ISLAND, 7, 0);
        check.due("a new ISLAND: no ROLL", hat.count(6), 0);
        check.due("a new ISLAND: dealings()", hat.dealings(), 24);
    }

    private static void counts(Check check) {
        NameHat hat = check.islandOf(ISLAND);
        check.due("dealings()", hat.dealings(), 24);
        check.due("dealt(0, 0)", hat.dealt(0, 0), 6);
        check.due("could(0)", hat.could(0), 15);
        check.roll(hat, "a has p;b not q;", 2, 0);
        check.due("dealings()", hat.dealings(), 4);
        check.due("dealt(0, 0)", hat.dealt(0, 0), 4);
        check.due("dealt(0, 1)", hat.dealt(0, 1), 0);
        check.due("dealt(1, 0)", hat.dealt(1, 0), 0);
        check.due("dealt(1, 2)", hat.dealt(1, 2), 2);
        check.due("dealt(2, 1)", hat.dealt(2, 1), 2);
        check.due("dealt(2, 2)", hat.dealt(2, 2), 1);
        check.due("could(0)", hat.could(0), 1);
        check.due("could(1)", hat.could(1), 12);
        check.due("could(2)", hat.could(2), 14);
        // What no LINE of c's tells: a and b take p and q between them.
        check.roll(hat, "a not r;a not s;b not r;b not s;", 4, 0);
        check.due("dealings()", hat.dealings(), 4);
        check.due("could(2)", hat.could(2), 12);
        check.roll(hat, "a has p;b has p;", 2, 0);
        check.due("dealings() of none", hat.dealings(), 0);
        check.due("dealt(0, 0)", hat.dealt(0, 0), 0);
        check.due("could(0)", hat.could(0), 0);
        check.due("could(2)", hat.could(2), 0);
        check.roll(hat, "a has p;a has q;", 2, 0);
        check.due("dealings() of none", hat.dealings(), 0);
        check.roll(hat, "a has p;a not p;", 2, 0);
        check.due("dealings() of none", hat.dealings(), 0);
        check.due("dealt(3, 0)", hat.dealt(3, 0), NameHat.NONE);
        check.due("dealt(-1, 0)", hat.dealt(-1, 0), NameHat.NONE);
        check.due("dealt(0, 4)", hat.dealt(0, 4), NameHat.NONE);
        check.due("dealt(0, -1)", hat.dealt(0, -1), NameHat.NONE);
        check.due("could(3)", hat.could(3), NameHat.NONE);
        check.due("could(-1)", hat.could(-1), NameHat.NONE);
        NameHat few = check.islandOf("name p 1;house a;house b;");
        check.due("more HOUSES", few.dealings(), 0);
        check.due("more HOUSES", few.dealt(0, 0), 0);
        check.due("more HOUSES", few.could(0), 0);
        check.due("no HOUSES", check.islandOf("name p 1;").dealings(), 1);
        check.due("nothing at all", new NameHat().dealings(), 1);
    }

    private static void mostOfAll(Check check) {
        StringBuilder text = new StringBuilder();
        for (char c = 'a'; c < 'k'; c++) {
            text.append("name ").append(c).append(" 1;");
        }
        for (char c = 'm'; c < 'u'; c++) {
            text.append("house ").append(c).append(';');
        }
        NameHat hat = check.islandOf(text.toString());
        check.due("10 in 8", hat.dealings(), 1814400);
        for (int h = 0; h < 8; h++) {
            check.due("dealt(" + h + ", 9)", hat.dealt(h, 9), 181440);
            check.due("could(" + h + ")", hat.could(h), 1023);
        }
        check.roll(hat, "t has j;m not a;", 2, 0);
        check.due("dealings()", hat.dealings(), 8 * 60480 / 3);
        check.due("dealt(7, 9)", hat.dealt(7, 9), hat.dealings());
        check.due("could(0)", hat.could(0), 1023 - 512 - 1);
    }
}
