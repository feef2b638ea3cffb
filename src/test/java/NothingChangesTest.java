import java.util.ArrayList;
import java.util.List;
import java.util.NoSuchElementException;

/**
 * Calls that are refused, that throw or that only ask leave all as it is. Each is made on one of two objects with
 * the same past; then both are asked all there is, and made to do the same things.
 */
public final class NothingChangesTest {
    private static final String ISLAND = "name p 10;name q 20;name r 5 cursed;name s 30 pawned;name t 7;house a holds p;"
        + "house b holds q;house c holds r;house d;wants a q 50;wants b p 40;wants c t 60;feud p q;feud t s;pews 3 2;"
        + "sits b 1;sits d 2;field 3;";
    private static final String BOOK = "swap a b;give a d;sits d 0;trade;";
    private static final String ROLL = "a has p;b not q;d not s;";
    private static final String OTHER_ISLAND = "name k 1;name l 2 cursed;house m holds l;house n;feud k l;pews 2 1;"
        + "sits n 1;";
    private static final String[] FAULTS = {"?", "name", "name z 1;name z 2;", "pews 5 1;", "name y 1;house y;",
        "name p 1;name q 1;house a holds q;wants a p 5;feud p q;pews 4 8;sits a 3;field 9;?", "house a holds p;"};
    private static final String[] BOOK_FAULTS = {"?", "swap a b;drop", "sits a 1;sits a 3;", "drop z;", "trade;swap a p;",
        "drop a;drop b;drop c;drop d;take a t;?"};
    private static final String[] ROLL_FAULTS = {"?", "a not p;b", "a has p;z has q;", "a not q;a has a;",
        "a not p;a not q;a not r;a not s;?"};

    /** What is done to an object. */
    private interface Act {
        void on(NameHat hat);
    }

    /** How an object comes to be what it is. */
    private interface Past {
        NameHat make();
    }

    /** One answer, of a call that may throw. */
    private interface Call {
        long answer();
    }

    private final Check check = new Check();
    private String told;
    private Past past;
    private boolean faultsAlike;
    private Act onTheOther;

    public static void main(String[] args) {
        NothingChangesTest test = new NothingChangesTest();
        test.rich();
        test.manySprings();
        test.asNew();
        test.noneToTell();
        test.fullTape();
        test.check.end("NothingChangesTest");
    }

    // ==== Two objects with the same past

    private void from(String name, Past how) {
        told = name;
        past = how;
        faultsAlike = true;
        onTheOther = hat -> { };
    }

    private void leavesAll(String call, Act act) {
        for (int way = 0; way < 3; way++) {
            NameHat one = past.make();
            NameHat other = past.make();
            try {
                act.on(one);
            } catch (NoSuchElementException thrown) {
                // It may throw: that is asked elsewhere.
            }
            onTheOther.on(other);
            List<Long> first = probe(one, way);
            List<Long> second = probe(other, way);
            int same = 0;
            while (same < second.size() && first.get(same).equals(second.get(same))) {
                same++;
            }
            check.due(told + ": " + call + ", answers as without it, way " + way, same, second.size());
        }
    }

    private static long orThrown(Call call) {
        try {
            return call.answer();
        } catch (NoSuchElementException thrown) {
            return -1000;
        }
    }

    private static long bit(boolean answer) {
        return answer ? 1 : 0;
    }

    /** All answers that leave all as it is. */
    private void ask(NameHat hat, List<Long> all) {
        for (int what = 0; what < 9; what++) {
            all.add((long) hat.count(what));
        }
        all.add(faultsAlike ? (long) hat.fault() : 0L);
        for (int i = 0; i < 9; i++) {
            all.add((long) hat.ringAt(i));
            all.add((long) hat.seatOf(i));
            all.add((long) hat.went(i));
        }
        for (int x = 0; x < hat.count(0); x++) {
            for (int what = 0; what < 4; what++) {
                all.add((long) hat.surname(x, what));
            }
        }
        for (int h = 0; h < hat.count(1); h++) {
            askHouse(hat, h, all);
        }
        for (int n = 1; n <= hat.count(5) + 1; n++) {
            all.add((long) hat.lapsed(n));
        }
        all.add((long) hat.worth());
        all.add((long) hat.broken());
        all.add((long) hat.dealings());
    }

    private static void askHouse(NameHat hat, int h, List<Long> all) {
        all.add((long) hat.house(h, 0));
        all.add((long) hat.house(h, 1));
        all.add((long) hat.could(h));
        all.add((long) hat.envy(h));
        for (int x = 0; x < hat.count(0); x++) {
            all.add((long) hat.value(h, x));
            all.add((long) hat.dealt(h, x));
        }
        for (int s = 0; s <= hat.count(5); s++) {
            all.add((long) hat.held(h, s));
        }
        for (int what = 0; what < 3; what++) {
            int one = what;
            all.add(orThrown(() -> hat.luck(h, 10, one)));
        }
    }

    /** Asks all, and does then what shows the rest: the BOOK, the tape, or both images. */
    private List<Long> probe(NameHat hat, int way) {
        List<Long> all = new ArrayList<>();
        ask(hat, all);
        if (way == 0) {
            act(hat, all);
        } else if (way == 1) {
            all.add((long) hat.island());
            all.add((long) hat.fault());
            ask(hat, all);
            act(hat, all);
        } else {
            for (int k = 1; k >= 0; k--) {
                all.add(bit(hat.restore(k)));
                ask(hat, all);
                act(hat, all);
            }
        }
        return all;
    }

    private void act(NameHat hat, List<Long> all) {
        all.add(bit(hat.sit()));
        all.add((long) hat.go(0));
        ask(hat, all);
        all.add((long) hat.ring());
        all.add((long) hat.seats());
        all.add((long) hat.go(1));
        ask(hat, all);
        all.add((long) hat.trade());
        all.add((long) hat.spring(4711));
        ask(hat, all);
    }

    // ==== An object of which all there is has been told

    private NameHat richHat() {
        NameHat hat = new NameHat();
        check.island(hat, OTHER_ISLAND, 7, 0);
        check.book(hat, "drop m;", 1, 0);
        hat.spring(8);
        hat.image(1);
        check.island(hat, ISLAND, 18, 0);
        check.book(hat, BOOK, 4, 0);
        check.roll(hat, ROLL, 3, 0);
        hat.ring();
        hat.spring(77);
        hat.swap(0, 1);
        hat.image(0);
        hat.seats();
        hat.spring(5);
        hat.seats();
        hat.ring();
        hat.go(0);
        check.roll(hat, "a has z;", -7, 3);
        Check.tell(hat, "name w 4;name v 5 pawned;house g holds w;house f;pews 2 4;");
        return hat;
    }

    private void rich() {
        from("rich", this::richHat);
        leavesAll("end(-1)", hat -> hat.end(-1));
        leavesAll("end(59)", hat -> hat.end(59));
        leavesAll("end(58)", hat -> hat.end(58));
        leavesAll("fault()", NameHat::fault);
        for (int i = -2; i <= 9; i++) {
            askingOf(i);
        }
        leavesAll("ring()", NameHat::ring);
        leavesAll("go(0)", hat -> hat.go(0));
        leavesAll("worth()", NameHat::worth);
        leavesAll("broken()", NameHat::broken);
        leavesAll("seats()", NameHat::seats);
        leavesAll("dealings()", NameHat::dealings);
        for (int h = -1; h <= 4; h++) {
            int one = h;
            leavesAll("swap of what is pawned, or none, or itself", hat -> swapIfRefused(hat, one));
        }
        for (int k : new int[] {-1, 2, 3, 32, Integer.MIN_VALUE, Integer.MAX_VALUE}) {
            leavesAll("image(" + k + ")", hat -> hat.image(k));
            leavesAll("restore(" + k + ")", hat -> hat.restore(k));
            leavesAll("go(" + k + ")", hat -> hat.go(k));
        }
        faultyTexts();
        from("rich", this::richHat);
        onTheOther = hat -> hat.end(0);
        for (String bytes : new String[] {"\u0000\u0001", "\u0000", "\u0009\u0000", "\u0000\u0009", "", "xyz"}) {
            leavesAll("grave()", hat -> {
                Check.tell(hat, bytes);
                hat.grave();
            });
        }
    }

    private static void swapIfRefused(NameHat hat, int a) {
        for (int b = -1; b <= 4; b++) {
            boolean fits = a >= 0 && a < 4 && b >= 0 && b < 4 && a != b;
            boolean trades = fits && hat.house(a, 0) >= 0 && hat.house(b, 0) >= 0
                && hat.surname(hat.house(a, 0), 1) != 2 && hat.surname(hat.house(b, 0), 1) != 2;
            if (!trades) {
                hat.swap(a, b);
            }
        }
    }

    /** Calls that ask, with numbers that there are and numbers that there are not. */
    private void askingOf(int i) {
        leavesAll("surname(" + i + ", 2)", hat -> hat.surname(i, 2));
        leavesAll("surname(1, " + i + ")", hat -> hat.surname(1, i));
        leavesAll("house(" + i + ", 0)", hat -> hat.house(i, 0));
        leavesAll("house(1, " + i + ")", hat -> hat.house(1, i));
        leavesAll("value(" + i + ", 1)", hat -> hat.value(i, 1));
        leavesAll("value(1, " + i + ")", hat -> hat.value(1, i));
        leavesAll("held(" + i + ", 1)", hat -> hat.held(i, 1));
        leavesAll("held(1, " + i + ")", hat -> hat.held(1, i));
        leavesAll("ringAt(" + i + ")", hat -> hat.ringAt(i));
        leavesAll("went(" + i + ")", hat -> hat.went(i));
        leavesAll("keeper(" + i + ", 1)", hat -> hat.keeper(i, 1));
        leavesAll("keeper(1, " + i + ")", hat -> hat.keeper(1, i));
        leavesAll("envy(" + i + ")", hat -> hat.envy(i));
        leavesAll("waiting(" + i + ", 0)", hat -> hat.waiting(i, 0));
        leavesAll("waiting(1, " + i + ")", hat -> hat.waiting(1, i));
        leavesAll("wedding(" + i + ", 1, 0, 0)", hat -> hat.wedding(i, 1, 0, 0));
        leavesAll("wedding(1, 2, " + i + ", 0)", hat -> hat.wedding(1, 2, i, 0));
        leavesAll("wedding(1, 2, 1, " + i + ")", hat -> hat.wedding(1, 2, 1, i));
        leavesAll("seatOf(" + i + ")", hat -> hat.seatOf(i));
        leavesAll("dealt(" + i + ", 1)", hat -> hat.dealt(i, 1));
        leavesAll("dealt(1, " + i + ")", hat -> hat.dealt(1, i));
        leavesAll("could(" + i + ")", hat -> hat.could(i));
        leavesAll("lapsed(" + i + ")", hat -> hat.lapsed(i));
        leavesAll("luck(" + i + ", 5, 0)", hat -> hat.luck(i, 5, 0));
        leavesAll("luck(1, " + i + ", 0)", hat -> hat.luck(1, i, 0));
        leavesAll("luck(1, 5, " + i + ")", hat -> hat.luck(1, 5, i));
        leavesAll("unfair(" + i + ", 5, 1, 2)", hat -> hat.unfair(i, 5, 1, 2));
        leavesAll("unfair(1, 5, " + i + ", " + i + ")", hat -> hat.unfair(1, 5, i, i));
        leavesAll("count(" + i + ")", hat -> hat.count(i));
    }

    /** "-1 less the place of a FAULT: it stays": of all there is, the tape and fault() alone are others then. */
    private void faultyTexts() {
        from("rich", this::richHat);
        faultsAlike = false;
        onTheOther = hat -> hat.end(0);
        for (String text : FAULTS) {
            leavesAll("island() of " + text, hat -> {
                Check.tell(hat, text);
                check.due("a FAULT", hat.island() < 0 && hat.fault() > 0, true);
            });
        }
        for (String text : BOOK_FAULTS) {
            leavesAll("book() of " + text, hat -> {
                Check.tell(hat, text);
                check.due("a FAULT", hat.book() < 0 && hat.fault() > 0, true);
            });
        }
        for (String text : ROLL_FAULTS) {
            leavesAll("roll() of " + text, hat -> {
                Check.tell(hat, text);
                check.due("a FAULT", hat.roll() < 0 && hat.fault() > 0, true);
            });
        }
        leavesAll("book() of too many LINES", hat -> {
            Check.tell(hat, Check.many("drop a;", 31));
            hat.book();
        });
        leavesAll("roll() of too many LINES", hat -> {
            Check.tell(hat, Check.many("a not p;", 31));
            hat.roll();
        });
        leavesAll("island() of too many bytes", hat -> {
            Check.tell(hat, "name z 1;" + Check.many(" ", 892));
            hat.island();
        });
    }

    // ==== Others

    private void manySprings() {
        from("24 SPRINGS", () -> {
            NameHat hat = richHat();
            while (hat.count(5) < 24) {
                hat.spring(hat.count(5) * 17);
            }
            hat.ring();
            hat.seats();
            return hat;
        });
        leavesAll("spring(5)", hat -> hat.spring(5));
        leavesAll("spring(-5)", hat -> hat.spring(-5));
        leavesAll("lapsed(26)", hat -> hat.lapsed(26));
        leavesAll("lapsed(25)", hat -> hat.lapsed(25));
        leavesAll("luck(0, 5, 0)", hat -> hat.luck(0, 5, 0));
        leavesAll("unfair(0, 5, 1, 2)", hat -> hat.unfair(0, 5, 1, 2));
        leavesAll("held(0, 25)", hat -> hat.held(0, 25));
    }

    private void asNew() {
        from("new", NameHat::new);
        leavesAll("end(0)", hat -> hat.end(0));
        leavesAll("end(1)", hat -> hat.end(1));
        leavesAll("spring(1)", hat -> hat.spring(1));
        leavesAll("swap(0, 1)", hat -> hat.swap(0, 1));
        leavesAll("ring()", NameHat::ring);
        leavesAll("trade()", NameHat::trade);
        leavesAll("go(2)", hat -> hat.go(2));
        leavesAll("sit()", NameHat::sit);
        leavesAll("restore(0)", hat -> hat.restore(0));
        leavesAll("restore(1)", hat -> hat.restore(1));
        leavesAll("image(2)", hat -> hat.image(2));
        leavesAll("grave()", NameHat::grave);
        leavesAll("island() of no LINES", NameHat::island);
        leavesAll("book() of no LINES", NameHat::book);
        leavesAll("roll() of no LINES", NameHat::roll);
        leavesAll("wedding(0, 1, 0, 0)", hat -> hat.wedding(0, 1, 0, 0));
        leavesAll("waiting(0, 0)", hat -> hat.waiting(0, 0));
        leavesAll("luck(0, 0, 0)", hat -> hat.luck(0, 0, 0));
        from("kept in place 1", () -> {
            NameHat hat = check.islandOf(ISLAND);
            hat.image(1);
            hat.spring(6);
            return hat;
        });
        leavesAll("restore(0) where nothing is kept", hat -> hat.restore(0));
        leavesAll("restore(2)", hat -> hat.restore(2));
    }

    /** ring() and seats() that are NONE, and sit() that is false, leave what the latest told. */
    private void noneToTell() {
        from("no RING, no SEATS", () -> {
            NameHat hat = check.islandOf(ISLAND);
            hat.ring();
            hat.seats();
            check.island(hat, "name p 1;name q 1;name r 9 pawned;house a holds p;house b holds q;house c holds r;feud p q;"
                + "pews 1 8;", 8, 0);
            Check.tell(hat, OTHER_ISLAND);
            return hat;
        });
        leavesAll("ring() of NONE", hat -> check.due("ring()", hat.ring(), NameHat.NONE));
        leavesAll("seats() of NONE", hat -> check.due("seats()", hat.seats(), NameHat.NONE));
        leavesAll("sit() of too few HOUSES", hat -> check.due("sit()", hat.sit(), false));
        leavesAll("trade() of no circles", hat -> check.due("trade()", hat.trade(), 0));
        leavesAll("go(1) of no BOOK, by another does", hat -> hat.go(-1));
        from("a PEW that is none", () -> {
            NameHat hat = check.islandOf(ISLAND);
            hat.seats();
            check.island(hat, "house a;house b;house c;house d;pews 2 8;sits a 1;", 6, 0);
            return hat;
        });
        leavesAll("sit()", hat -> check.due("sit()", hat.sit(), false));
    }

    private void fullTape() {
        for (int bytes : new int[] {921, 930, 940}) {
            from(bytes + " bytes", () -> {
                NameHat hat = check.islandOf(ISLAND);
                Check.tell(hat, "name w 4;house f;" + Check.many(" ", bytes - 18) + "?");
                return hat;
            });
            leavesAll("feed()", hat -> check.due("feed()", hat.feed(0x68, 0x6f, 0x75, 0x73, -1), NameHat.NONE));
            leavesAll("end() of more", hat -> check.due("end()", hat.end(bytes + 1), false));
            leavesAll("end() of all", hat -> check.due("end()", hat.end(bytes), true));
        }
        // What the tape holds is the same, too: cut to what an ISLAND may have, it is one.
        NameHat hat = new NameHat();
        Check.tell(hat, "name w 4;house f;" + Check.many(" ", 913) + "name q 1;");
        check.due("939 bytes", hat.count(7), 939);
        check.due("feed()", hat.feed(-1, -1, -1, -1, -1), NameHat.NONE);
        check.due("end(900)", hat.end(900), true);
        check.due("island()", hat.island(), 2);
    }
}
