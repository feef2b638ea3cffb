import java.util.ArrayList;
import java.util.List;
import java.util.NoSuchElementException;

/**
 * What a call that does something leaves alone: of two objects with the same past one makes the call, and each part
 * that the document doesn't name for it is asked of both then. Each part is asked of a pair of its own, so that the
 * asking may change the rest.
 */
public final class LeavesAloneTest {
    private static final String ISLAND = "name p 10;name q 20;name r 5 cursed;name s 30 pawned;name t 7;house a holds p;"
        + "house b holds q;house c holds r;house d;wants a q 50;wants b p 40;wants c t 60;wants b r 90;feud p q;feud t s;"
        + "pews 3 3;sits b 1;sits d 2;field 3;";
    private static final String OTHER = "name k 1;name l 2 cursed;house m holds l;house n;feud k l;pews 2 1;sits n 1;"
        + "wants n k 9;";
    // One BOOK whose LINES ask where all sit, and one that asks what they hold.
    private static final String SITS_BOOK = "sits a 2;sits b 2;sits b 0;sits c 1;sits c 2;sits d 1;sits a 2;";
    private static final String HOLDS_BOOK = "drop a;take a t;drop b;take d p;drop d;drop d;";

    /** Parts of an object; all but the last seven are one ISLAND's. */
    private enum Part { TOLD, HELD, SITS, SPRINGS, DRAWN, ROLL, BOOK, TAPE, FAULT, RING, SEATS, WENT, IMAGE0, IMAGE1 }

    /** What is done to an object. */
    private interface Act {
        void on(NameHat hat);
    }

    private final Check check = new Check();
    private String bookText = SITS_BOOK;

    public static void main(String[] args) {
        LeavesAloneTest test = new LeavesAloneTest();
        test.tapeAndTexts();
        test.namesAndSeats();
        test.images();
        test.check.end("LeavesAloneTest");
    }

    private NameHat make() {
        NameHat hat = new NameHat();
        check.island(hat, OTHER, 8, 0);
        check.book(hat, "drop m;", 1, 0);
        check.roll(hat, "m not k;", 1, 0);
        hat.spring(8);
        hat.image(1);
        check.island(hat, ISLAND, 19, 0);
        check.book(hat, "drop a;", 1, 0);
        hat.spring(3);
        hat.swap(0, 1);
        hat.spring(1);
        hat.image(0);
        hat.seats();
        check.book(hat, "sits a 1;", 1, 0);
        hat.go(1);
        check.book(hat, bookText, bookText.equals(SITS_BOOK) ? 7 : 6, 0);
        check.roll(hat, "a has p;b not q;d not s;", 3, 0);
        hat.spring(77);
        hat.swap(1, 2);
        hat.ring();
        hat.go(0);
        check.book(hat, "take a z;", -8, 3);
        Check.tell(hat, "name w 4;name v 5 pawned;house g holds w;house f;pews 2 4;");
        return hat;
    }

    // ==== One part of it

    private static List<Integer> ask(NameHat hat, Part part) {
        List<Integer> all = new ArrayList<>();
        switch (part) {
            case TOLD: told(hat, all); break;
            case HELD: case SITS: holds(hat, part == Part.SITS ? 1 : 0, all); break;
            case SPRINGS: springs(hat, all); break;
            case DRAWN: drawn(hat, all); break;
            case ROLL: roll(hat, all); break;
            case BOOK:
                all.add(hat.count(8));
                all.add(hat.go(0));
                all.add(hat.went(0));
                all.add(hat.went(1));
                break;
            case TAPE:
                all.add(hat.count(7));
                all.add(hat.island());
                all.add(hat.fault());
                told(hat, all);
                break;
            case FAULT: all.add(hat.fault()); break;
            case RING: case SEATS: case WENT: latest(hat, part, all); break;
            default:
                all.add(hat.restore(part == Part.IMAGE0 ? 0 : 1) ? 1 : 0);
                for (Part one : List.of(Part.TOLD, Part.HELD, Part.SITS, Part.SPRINGS, Part.DRAWN, Part.ROLL, Part.BOOK)) {
                    all.addAll(ask(hat, one));
                }
        }
        return all;
    }

    private static void told(NameHat hat, List<Integer> all) {
        for (int what = 0; what < 5; what++) {
            all.add(hat.count(what));
        }
        for (int x = 0; x < hat.count(0); x++) {
            all.add(hat.surname(x, 0));
            all.add(hat.surname(x, 1));
            all.add(hat.surname(x, 3));
            for (int h = 0; h < hat.count(1); h++) {
                all.add(hat.value(h, x));
            }
        }
    }

    private static void holds(NameHat hat, int what, List<Integer> all) {
        for (int h = 0; h < hat.count(1); h++) {
            all.add(hat.house(h, what));
        }
    }

    private static void springs(NameHat hat, List<Integer> all) {
        all.add(hat.count(5));
        for (int s = 0; s < hat.count(5); s++) {
            for (int h = 0; h < hat.count(1); h++) {
                all.add(hat.held(h, s));
            }
        }
    }

    private static void drawn(NameHat hat, List<Integer> all) {
        for (int h = 0; h < hat.count(1); h++) {
            for (int worth = 0; worth < 40; worth += 6) {
                try {
                    all.add((int) hat.luck(h, worth, 2));
                } catch (NoSuchElementException thrown) {
                    all.add(-1000);
                }
            }
        }
    }

    private static void roll(NameHat hat, List<Integer> all) {
        all.add(hat.count(6));
        all.add(hat.dealings());
        for (int h = 0; h < hat.count(1); h++) {
            all.add(hat.could(h));
        }
    }

    private static void latest(NameHat hat, Part part, List<Integer> all) {
        for (int i = 0; i < 9; i++) {
            all.add(part == Part.RING ? hat.ringAt(i) : part == Part.SEATS ? hat.seatOf(i) : hat.went(i));
        }
    }

    // ==== All parts but those named

    private void leaves(String call, Act act, Part... butThese) {
        for (Part part : Part.values()) {
            if (List.of(butThese).contains(part)) {
                continue;
            }
            NameHat one = make();
            act.on(one);
            check.due(call + " leaves " + part, ask(one, part).equals(ask(make(), part)), true);
        }
    }

    /** It does change those, so that the test of the others is one. */
    private void changes(String call, Act act, Part... these) {
        for (Part part : these) {
            NameHat one = make();
            act.on(one);
            check.due(call + " changes " + part, ask(one, part).equals(ask(make(), part)), false);
        }
    }

    private void does(String call, Act act, Part... these) {
        leaves(call, act, these);
        changes(call, act, these);
    }

    private static Act reads(String text, Act reading) {
        return hat -> {
            Check.tell(hat, text);
            reading.on(hat);
        };
    }

    private void tapeAndTexts() {
        does("feed()", hat -> hat.feed(0x20202020, 0x6669656c, 0x64203131, 0x3b202020, 0x20202020), Part.TAPE);
        does("end(9)", hat -> hat.end(9), Part.TAPE);
        does("grave()", NameHat::grave, Part.TAPE);
        does("grave() of a pair", reads("\u0001\u0001", NameHat::grave), Part.TAPE);
        does("island()", NameHat::island, Part.TOLD, Part.HELD, Part.SITS, Part.SPRINGS, Part.DRAWN, Part.ROLL, Part.BOOK,
            Part.TAPE, Part.FAULT);
        does("island() with a FAULT", reads("name z 5;house y holds z;pews 1 9;", NameHat::island), Part.TAPE, Part.FAULT);
        does("book()", reads("drop c;drop c;", NameHat::book), Part.BOOK, Part.TAPE, Part.FAULT);
        does("book() with a FAULT", reads("drop c;drop c;sits a 9;", NameHat::book), Part.TAPE, Part.FAULT);
        does("roll()", reads("c has p;", NameHat::roll), Part.ROLL, Part.TAPE, Part.FAULT);
        does("roll() with a FAULT", reads("c has p;?", NameHat::roll), Part.TAPE, Part.FAULT);
    }

    private void namesAndSeats() {
        does("spring(6)", hat -> hat.spring(6), Part.HELD, Part.SPRINGS, Part.DRAWN);
        does("swap(0, 1)", hat -> check.due("swap", hat.swap(0, 1), true), Part.HELD);
        does("trade()", hat -> check.due("trade", hat.trade() > 0, true), Part.HELD);
        does("seats()", NameHat::seats, Part.SEATS);
        bookText = HOLDS_BOOK;
        does("sit()", hat -> check.due("sit", hat.sit(), true), Part.SITS);
        does("go(0)", hat -> hat.go(0));
        bookText = SITS_BOOK;
        does("go(1)", hat -> hat.go(1), Part.SITS, Part.BOOK);
        // The BOOK itself is left: told again, it does the same.
        NameHat one = make();
        one.go(1);
        NameHat other = make();
        other.go(1);
        check.book(other, SITS_BOOK, 7, 0);
        check.due("go(1) leaves BOOK", ask(one, Part.BOOK).equals(ask(other, Part.BOOK)), true);
        // ring(), seats() and go() tell their own anew, and no other's.
        does("ring() of what is held then", hat -> {
            hat.swap(0, 3);
            hat.ring();
        }, Part.HELD, Part.RING);
    }

    private void images() {
        does("image(0)", hat -> hat.image(0), Part.IMAGE0);
        does("image(1)", hat -> hat.image(1), Part.IMAGE1);
        leaves("image(2)", hat -> hat.image(2));
        does("restore(0)", hat -> hat.restore(0), Part.HELD, Part.SITS, Part.SPRINGS, Part.DRAWN, Part.ROLL, Part.BOOK);
        does("restore(1)", hat -> hat.restore(1), Part.TOLD, Part.HELD, Part.SITS, Part.SPRINGS, Part.DRAWN, Part.ROLL,
            Part.BOOK);
        leaves("restore(2)", hat -> hat.restore(2));
        // What comes behind an image, or behind restore(), is none of the image's.
        for (int k = 0; k < 2; k++) {
            int place = k;
            Part image = k == 0 ? Part.IMAGE0 : Part.IMAGE1;
            NameHat one = make();
            one.restore(place);
            changeAll(one);
            check.due("the image " + k + " stays", ask(one, image).equals(ask(make(), image)), true);
            one = make();
            one.image(place);
            NameHat other = make();
            other.image(place);
            changeAll(one);
            check.due("the later image " + k + " stays", ask(one, image).equals(ask(other, image)), true);
        }
    }

    /** Everything there is becomes another. */
    private void changeAll(NameHat hat) {
        hat.swap(0, 1);
        hat.go(1);
        hat.spring(123);
        hat.trade();
        Check.tell(hat, "");
        hat.roll();
        hat.book();
        hat.seats();
        hat.sit();
        Check.tell(hat, "name y 3;name x 9;house w;house v holds y;house u;pews 4 1;sits w 3;wants w y 77;");
        check.due("island()", hat.island(), 8);
        hat.spring(5);
        hat.spring(6);
        check.roll(hat, "w has y;", 1, 0);
        check.book(hat, "trade;trade;trade;", 3, 0);
        hat.go(1);
    }
}
