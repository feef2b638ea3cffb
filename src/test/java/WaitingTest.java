/** Promises 21, 22: waiting, wedding. */
public final class WaitingTest {
    public static void main(String[] args) {
        Check check = new Check();
        waits(check);
        weds(check);
        check.end("WaitingTest");
    }

    private static void waits(Check check) {
        NameHat hat = check.islandOf("name p 10;name q 20;name r 5 cursed;name s 30 pawned;"
            + "house a;house b;house c;house d;house e;wants a p 11;wants b p 13;wants c r 60;wants d r 99;wants d p 0;");
        waitIs(check, hat, 0, 14, 1);
        waitIs(check, hat, 1, 29, 2);
        waitIs(check, hat, 2, 0, 1);
        waitIs(check, hat, 3, -49, 4);
        waitIs(check, hat, 4, 55, 4);
        check.isMissing("waiting(5, 0)", () -> hat.waiting(5, 0));
        check.isMissing("waiting(-1, 0)", () -> hat.waiting(-1, 0));
        check.isMissing("waiting(0, 2)", () -> hat.waiting(0, 2));
        check.isMissing("waiting(0, -1)", () -> hat.waiting(0, -1));
        NameHat bare = check.islandOf("house a;house b;");
        check.isMissing("no SURNAMES", () -> bare.waiting(0, 0));
        // None is left without: the last HOUSE, too.
        NameHat few = check.islandOf("name p 7;house a;house b;");
        waitIs(check, few, 1, 7, 1);
    }

    private static void waitIs(Check check, NameHat hat, int h, int above, int below) {
        check.due("waiting(" + h + ", 0)", hat.waiting(h, 0), above);
        check.due("waiting(" + h + ", 1)", hat.waiting(h, 1), below);
    }

    private static void weds(Check check) {
        NameHat hat = check.islandOf("name p 10;name q 20;name r 5 cursed;house a;house b;house c;wants a p 40;"
            + "wants c p 0;wants c q 0;wants c r 99;");
        // a: 40, 20, -5; b: 10, 20, -5; together 50, 40, -10.
        wedIs(check, hat, 0, 1, 0, 80, 3);
        wedIs(check, hat, 1, 0, 0, 80, 3);
        wedIs(check, hat, 0, 1, 1, 140, 3);
        // c: 0, 0, -99; with b: 10, 20, -104.
        wedIs(check, hat, 1, 2, 0, -74, 3);
        wedIs(check, hat, 1, 2, 1, 50, 3);
        check.isMissing("wedding(0, 0, 0, 0)", () -> hat.wedding(0, 0, 0, 0));
        check.isMissing("wedding(0, 3, 0, 0)", () -> hat.wedding(0, 3, 0, 0));
        check.isMissing("wedding(3, 0, 0, 0)", () -> hat.wedding(3, 0, 0, 0));
        check.isMissing("wedding(-1, 0, 0, 0)", () -> hat.wedding(-1, 0, 0, 0));
        check.isMissing("wedding(0, -1, 0, 0)", () -> hat.wedding(0, -1, 0, 0));
        check.isMissing("wedding(0, 1, 2, 0)", () -> hat.wedding(0, 1, 2, 0));
        check.isMissing("wedding(0, 1, -1, 0)", () -> hat.wedding(0, 1, -1, 0));
        check.isMissing("wedding(0, 1, 0, 2)", () -> hat.wedding(0, 1, 0, 2));
        check.isMissing("wedding(0, 1, 0, -1)", () -> hat.wedding(0, 1, 0, -1));
        NameHat one = check.islandOf("name p 7;house a;house b;");
        check.isMissing("one SURNAME", () -> one.wedding(0, 1, 0, 0));
        check.isMissing("one SURNAME", () -> one.wedding(0, 1, 1, 0));
        NameHat two = check.islandOf("name p 7;name q 5;house a;house b;");
        wedIs(check, two, 0, 1, 0, 12, 1);
        wedIs(check, two, 0, 1, 1, 14, 1);
        NameHat cursed = check.islandOf("name p 1 cursed;name q 2 cursed;name r 3 cursed;name s 6 cursed;house a;house b;");
        wedIs(check, cursed, 0, 1, 0, -6, 1);
        wedIs(check, cursed, 0, 1, 1, -10, 3);
    }

    private static void wedIs(Check check, NameHat hat, int a, int b, int when, int above, int below) {
        check.due("wedding(" + a + ", " + b + ", " + when + ", 0)", hat.wedding(a, b, when, 0), above);
        check.due("wedding(" + a + ", " + b + ", " + when + ", 1)", hat.wedding(a, b, when, 1), below);
    }
}
