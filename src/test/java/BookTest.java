/** Promises 15 to 17: book, go, went. */
public final class BookTest {
    private static final String ISLAND = "name p 10;name q 20;name r 5 cursed;name s 30 pawned;name t 7;name u 8 pawned;"
        + "house a holds p;house b holds q;house c holds r;house d;house e holds s;"
        + "wants a q 50;wants b p 40;feud p q;pews 3 2;sits c 1;sits d 1;sits e 2;field 3;";

    public static void main(String[] args) {
        Check check = new Check();
        faults(check);
        wrongs(check);
        leastWhy(check);
        doing(check);
        staying(check);
        check.end("BookTest");
    }

    private static void faults(Check check) {
        NameHat hat = check.islandOf(ISLAND);
        check.book(hat, "", 0, 0);
        check.book(hat, "swap a b;give a b;drop a;take a p;sits a 2;trade;", 6, 0);
        check.due("count(8)", hat.count(8), 6);
        check.book(hat, "swap", -5, 1);
        check.book(hat, "swap;", -5, 1);
        check.book(hat, "swap a;", -7, 1);
        check.book(hat, "swap a 1;", -8, 1);
        check.book(hat, "swap a p;", -8, 3);
        check.book(hat, "swap p a;", -6, 3);
        check.book(hat, "swap z a;", -6, 3);
        check.book(hat, "swap a b c;", -10, 1);
        check.book(hat, "give a p;", -8, 3);
        check.book(hat, "give a z;", -8, 3);
        check.book(hat, "give sits a;", -6, 1);
        check.book(hat, "drop p;", -6, 3);
        check.book(hat, "drop a b;", -8, 1);
        check.book(hat, "take a b;", -8, 3);
        check.book(hat, "take a z;", -8, 3);
        check.book(hat, "take a has;", -8, 1);
        check.book(hat, "sits a 3;", -8, 2);
        check.book(hat, "sits a b;", -8, 1);
        check.book(hat, "sits p 1;", -6, 3);
        check.book(hat, "trade a;", -7, 1);
        check.book(hat, "trade", -6, 1);
        check.book(hat, "5;", -1, 1);
        check.book(hat, "trade;;", -7, 1);
        check.book(hat, ";", -1, 1);
        check.book(hat, "name z 1;", -1, 1);
        check.book(hat, "pews 1 1;", -1, 1);
        check.book(hat, "field 1;", -1, 1);
        check.book(hat, "has;", -1, 1);
        check.book(hat, "not;", -1, 1);
        check.book(hat, "a has p;", -1, 1);
        check.due("the BOOK stays", hat.count(8), 6);
        check.book(hat, Check.many("trade;", 30), 30, 0);
        check.book(hat, Check.many("trade;", 31), -181, 4);
        check.book(hat, Check.many("trade;", 30) + "swap z z;", -181, 4);
        check.book(hat, Check.many("trade;", 30) + "fly", -181, 1);
        check.book(hat, Check.many("trade;", 30) + " ;", -182, 1);
        check.due("the BOOK stays", hat.count(8), 30);
        check.book(hat, "trade;" + Check.many(" ", 394), 1, 0);
        check.book(hat, "trade;" + Check.many(" ", 395), -401, 1);
        check.book(hat, "trade;" + Check.many(" ", 389) + "trade;", -401, 1);
        check.book(hat, "trade;" + Check.many(" ", 391) + "sits z 9;", -401, 1);
        check.book(hat, "trade;" + Check.many(" ", 388) + "sits z 9;", -400, 3);
    }

    private static void wrongs(Check check) {
        wrong(check, "swap a a;", 1);
        wrong(check, "swap a d;", 1);
        wrong(check, "swap d a;", 1);
        wrong(check, "give d a;", 1);
        wrong(check, "give a b;", 1);
        wrong(check, "give d d;", 1);
        wrong(check, "give a a;", 1);
        wrong(check, "drop d;", 1);
        wrong(check, "take a t;", 1);
        wrong(check, "take a p;", 1);
        wrong(check, "swap a e;", 2);
        wrong(check, "swap e a;", 2);
        wrong(check, "give e d;", 2);
        wrong(check, "drop e;", 2);
        wrong(check, "take d u;", 2);
        wrong(check, "take d s;", 2);
        wrong(check, "swap a c;", 3);
        wrong(check, "swap c a;", 3);
        wrong(check, "give c d;", 3);
        wrong(check, "take d p;", 4);
        wrong(check, "sits a 0;", 5);
        wrong(check, "sits c 1;", 5);
        wrong(check, "sits a 1;", 6);
        wrong(check, "sits e 0;", 6);
        wrong(check, "swap a b;", 0);
        wrong(check, "give a d;", 0);
        wrong(check, "drop c;", 0);
        wrong(check, "take d t;", 0);
        wrong(check, "sits a 2;", 0);
        wrong(check, "trade;", 0);
    }

    private static void wrong(Check check, String line, int why) {
        NameHat hat = check.islandOf(ISLAND);
        check.book(hat, line, 1, 0);
        check.due("go(0) of " + line, hat.go(0), why == 0 ? NameHat.NONE : 0);
        check.due("went(0) of " + line, hat.went(0), why);
        check.due("went(1) of " + line, hat.went(1), why == 0 ? 1 : 0);
    }

    private static void leastWhy(Check check) {
        NameHat hat = check.islandOf("name p 5 pawned;name q 1 cursed;house a holds p;house b holds q;house c;house d;"
            + "pews 2 1;sits b 1;");
        int[] due = {1, 1, 2, 1, 1, 5};
        String[] lines = {"swap a c;", "give a b;", "swap a b;", "take a q;", "take b p;", "sits a 0;"};
        for (int i = 0; i < lines.length; i++) {
            check.book(hat, lines[i], 1, 0);
            hat.go(0);
            check.due("went(0) of " + lines[i], hat.went(0), due[i]);
        }
        // A like VALUE is not less.
        hat = check.islandOf("name p 5;name q 5;name r 0 cursed;house a holds p;house b holds q;house c holds r;house d;");
        check.book(hat, "swap a b;give c d;", 2, 0);
        check.due("go(1)", hat.go(1), NameHat.NONE);
        check.due("house(0, 0)", hat.house(0, 0), 1);
        check.due("house(3, 0)", hat.house(3, 0), 2);
        check.due("house(2, 0)", hat.house(2, 0), NameHat.NONE);
    }

    private static void doing(Check check) {
        NameHat hat = check.islandOf(ISLAND);
        int worth = hat.worth();
        check.book(hat, "give a d;drop b;take a q;sits a 1;trade;", 5, 0);
        check.due("went(0) ahead of any", hat.went(0), NameHat.NONE);
        check.due("go(2)", hat.go(2), -2);
        check.due("go(-1)", hat.go(-1), -2);
        check.due("went(0) still", hat.went(0), NameHat.NONE);
        check.due("go(0)", hat.go(0), 3);
        check.due("went(0)", hat.went(0), 6);
        check.due("went(1)", hat.went(1), 3);
        check.due("went(2)", hat.went(2), 50 - 2 + 10 + 30);
        check.due("went(3)", hat.went(3), 4);
        check.due("went(4)", hat.went(4), NameHat.NONE);
        check.due("went(-1)", hat.went(-1), NameHat.NONE);
        check.due("all stays", hat.worth(), worth);
        check.due("all stays", hat.house(0, 0), 0);
        check.due("go(1)", hat.go(1), 3);
        check.due("house(0, 0)", hat.house(0, 0), 1);
        check.due("house(1, 0)", hat.house(1, 0), NameHat.NONE);
        check.due("house(3, 0)", hat.house(3, 0), 0);
        check.due("house(0, 1)", hat.house(0, 1), 0);
        check.due("worth()", hat.worth(), 88);
        check.due("go(1) from there", hat.go(1), 0);
        check.due("went(0)", hat.went(0), 1);
        check.due("go(3)", hat.go(3), -2);
        check.due("went(0) stays", hat.went(0), 1);
        check.book(hat, "sits c 0;sits e 1;sits a 2;sits c 1;", 4, 0);
        check.due("sits: go(1)", hat.go(1), 0);
        check.due("sits: went(0)", hat.went(0), 6);
        check.book(hat, "sits a 2;sits c 0;sits e 1;trade;", 4, 0);
        check.due("sits: go(1)", hat.go(1), NameHat.NONE);
        check.due("sits: house(0, 1)", hat.house(0, 1), 2);
        check.due("sits: house(2, 1)", hat.house(2, 1), 0);
        check.due("sits: house(4, 1)", hat.house(4, 1), 1);
        check.due("went(1)", hat.went(1), 4);
    }

    private static void staying(Check check) {
        NameHat hat = check.islandOf(ISLAND);
        check.book(hat, "trade;trade;", 2, 0);
        check.book(hat, "", 0, 0);
        check.due("a BOOK of no LINES", hat.count(8), 0);
        // What a BOOK would do is not there for the next text.
        check.book(hat, "drop a;sits b 2;", 2, 0);
        check.due("go(0)", hat.go(0), NameHat.NONE);
        check.book(hat, "drop a;sits b 2;", 2, 0);
        check.due("house(0, 0) behind book()", hat.house(0, 0), 0);
        check.due("house(1, 1) behind book()", hat.house(1, 1), 0);
        check.due("go(0)", hat.go(0), NameHat.NONE);
        check.roll(hat, "a has p;", 1, 0);
        check.due("house(0, 0) behind roll()", hat.house(0, 0), 0);
        check.due("house(1, 1) behind roll()", hat.house(1, 1), 0);
        check.due("count(8) behind roll()", hat.count(8), 2);
        check.book(hat, "trade;", 1, 0);
        check.due("count(6) behind book()", hat.count(6), 1);
        check.book(hat, "trade;", 1, 0);
        check.due("go(1)", hat.go(1), NameHat.NONE);
        check.due("traded", hat.house(0, 0), 1);
        check.due("traded", hat.house(1, 0), 0);
        hat.spring(5);
        check.due("the BOOK stays over a SPRING", hat.count(8), 1);
        check.due("went(1) stays", hat.went(1), 1);
        check.island(hat, "name z 1;house y;", 2, 0);
        check.due("no BOOK", hat.count(8), 0);
        check.due("went(2) stays", hat.went(2), 50 + 40 - 2 + 30);
        check.due("go(1) of no BOOK", hat.go(1), NameHat.NONE);
        check.due("went(1)", hat.went(1), 0);
        check.due("went(2)", hat.went(2), 0);
        check.due("went(3)", hat.went(3), 0);
    }
}
