/** Promises 23 to 26: broken, seats, seatOf, sit. */
public final class SeatTest {
    private static final String NAMES = "name p 1;name q 1;name r 1;name s 1;";
    private static final String HOUSES = "house a holds p;house b holds q;house c holds r;house d holds s;";

    public static void main(String[] args) {
        Check check = new Check();
        brokenPairs(check);
        fewestMoves(check);
        cannotBe(check);
        sitting(check);
        check.end("SeatTest");
    }

    private static void brokenPairs(Check check) {
        NameHat hat = check.islandOf(NAMES + HOUSES + "house e;feud p q;feud q r;feud r p;feud s p;pews 2 8;sits d 1;");
        check.due("broken()", hat.broken(), 3);
        check.due("swap", hat.swap(0, 3), true);
        check.due("broken() goes with the names", hat.broken(), 1);
        hat = check.islandOf(NAMES + "house a holds p;house b;feud p q;");
        check.due("who holds nothing feuds with none", hat.broken(), 0);
    }

    private static void fewestMoves(Check check) {
        NameHat hat = check.islandOf(NAMES + HOUSES + "feud p q;pews 2 8;");
        // Either a or b moves; of like ones the first leaves a where it is.
        seatsAre(check, hat, 1, 0, 1, 0, 0);
        hat = check.islandOf(NAMES + HOUSES + "feud p q;pews 2 8;sits a 1;sits b 1;");
        seatsAre(check, hat, 1, 0, 1, 0, 0);
        hat = check.islandOf(NAMES + HOUSES + "pews 3 2;");
        seatsAre(check, hat, 2, 0, 0, 1, 1);
        hat = check.islandOf(NAMES + HOUSES + "pews 4 1;sits a 3;sits b 3;sits c 2;sits d 2;");
        seatsAre(check, hat, 2, 0, 3, 1, 2);
        hat = check.islandOf(NAMES + HOUSES + "pews 4 8;sits a 3;sits b 2;sits c 1;");
        seatsAre(check, hat, 0, 3, 2, 1, 0);
        // All that feud with a go: fewer moves than a's own would be no answer.
        hat = check.islandOf(NAMES + HOUSES + "feud p q;feud p r;feud p s;pews 2 3;");
        seatsAre(check, hat, 1, 1, 0, 0, 0);
        hat = check.islandOf(NAMES + HOUSES + "feud p q;feud r s;feud p r;feud q s;pews 2 2;");
        seatsAre(check, hat, 2, 0, 1, 1, 0);
    }

    private static void seatsAre(Check check, NameHat hat, int moves, int... pews) {
        check.due("seats()", hat.seats(), moves);
        for (int h = 0; h < pews.length; h++) {
            check.due("seatOf(" + h + ")", hat.seatOf(h), pews[h]);
        }
        check.due("seatOf(-1)", hat.seatOf(-1), NameHat.NONE);
        check.due("seatOf(" + pews.length + ")", hat.seatOf(pews.length), NameHat.NONE);
    }

    private static void cannotBe(Check check) {
        NameHat hat = check.islandOf(NAMES + HOUSES + "pews 3 1;");
        check.due("too few SEATS", hat.seats(), NameHat.NONE);
        check.due("seatOf(0)", hat.seatOf(0), NameHat.NONE);
        check.due("sit()", hat.sit(), false);
        hat = check.islandOf(NAMES + HOUSES + "feud p q;feud q r;feud r p;pews 2 8;");
        check.due("too many feuds", hat.seats(), NameHat.NONE);
        hat = check.islandOf(NAMES + HOUSES + "feud p q;pews 1 8;");
        check.due("one PEW", hat.seats(), NameHat.NONE);
        hat = check.islandOf(NAMES + HOUSES + "pews 4 1;");
        seatsAre(check, hat, 3, 0, 1, 2, 3);
    }

    private static void sitting(Check check) {
        NameHat hat = check.islandOf(NAMES + HOUSES + "feud p q;pews 2 8;sits a 1;sits b 1;");
        check.due("sit() ahead of any", hat.sit(), false);
        seatsAre(check, hat, 1, 0, 1, 0, 0);
        check.due("seats() moves none", hat.house(0, 1), 1);
        check.due("sit()", hat.sit(), true);
        check.due("house(0, 1)", hat.house(0, 1), 0);
        check.due("house(1, 1)", hat.house(1, 1), 1);
        check.due("broken()", hat.broken(), 0);
        check.due("seats() again", hat.seats(), 0);
        check.due("sit() twice", hat.sit(), true);
        check.island(hat, NAMES + "house a;house b;house c;", 7, 0);
        check.due("not as many HOUSES", hat.sit(), false);
        check.due("seatOf(1) stays", hat.seatOf(1), 1);
        check.due("seatOf(3) stays", hat.seatOf(3), 0);
        check.island(hat, NAMES + "house a;house b;house c;house d;", 8, 0);
        check.due("a PEW that is none", hat.sit(), false);
        check.due("nobody moved", hat.house(1, 1), 0);
        NameHat turned = check.islandOf(NAMES + HOUSES + "pews 2 8;sits a 1;");
        seatsAre(check, turned, 0, 1, 0, 0, 0);
        check.island(turned, NAMES + HOUSES, 8, 0);
        check.due("the first HOUSE's PEW is none", turned.sit(), false);
        check.island(hat, NAMES + "house a;house b;house c;house d;house e;pews 2 8;", 10, 0);
        check.due("more HOUSES", hat.sit(), false);
        check.island(hat, NAMES + "house a;house b;house c;house d;pews 2 1;", 9, 0);
        check.due("NONE leaves the latest", hat.seats(), NameHat.NONE);
        check.due("sit() as the latest tells", hat.sit(), true);
        check.due("house(1, 1)", hat.house(1, 1), 1);
        check.due("house(2, 1)", hat.house(2, 1), 0);
        NameHat none = new NameHat();
        check.due("no HOUSES: seats()", none.seats(), 0);
        check.due("no HOUSES: sit()", none.sit(), true);
        check.due("no HOUSES: seatOf(0)", none.seatOf(0), NameHat.NONE);
    }
}
