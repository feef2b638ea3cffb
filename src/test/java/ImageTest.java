/** Promises 35 to 37: image, restore, count. */
public final class ImageTest {
    private static final String ISLAND = "name p 5;name q 6 cursed;name r 7;house a holds p;house b holds r;house c;"
        + "wants a r 9;wants b p 9;feud p r;pews 2 4;sits b 1;field 2;";

    public static void main(String[] args) {
        Check check = new Check();
        places(check);
        all(check);
        whatStays(check);
        counts(check);
        check.end("ImageTest");
    }

    private static void places(Check check) {
        NameHat hat = new NameHat();
        check.due("restore(0) of nothing", hat.restore(0), false);
        check.due("restore(1) of nothing", hat.restore(1), false);
        for (int k : new int[] {-1, 2, 3, Integer.MIN_VALUE, Integer.MAX_VALUE}) {
            check.due("image(" + k + ")", hat.image(k), false);
            check.due("restore(" + k + ")", hat.restore(k), false);
        }
        check.due("image(1) of an empty ISLAND", hat.image(1), true);
        check.due("restore(0) of nothing still", hat.restore(0), false);
        check.island(hat, ISLAND, 12, 0);
        check.due("image(0)", hat.image(0), true);
        check.due("restore(1)", hat.restore(1), true);
        check.due("empty", hat.count(0), 0);
        check.due("empty", hat.count(2), 1);
        check.due("restore(0)", hat.restore(0), true);
        check.due("told", hat.count(0), 3);
        check.due("restore(0) again", hat.restore(0), true);
        hat.spring(1);
        check.due("image(0) over it", hat.image(0), true);
        hat.restore(1);
        hat.restore(0);
        check.due("the later one", hat.count(5), 1);
        check.due("image(1) over it", hat.image(1), true);
        check.island(hat, "", 0, 0);
        check.due("image(0) of none", hat.image(0), true);
        check.due("restore(1)", hat.restore(1), true);
        check.due("told", hat.count(0), 3);
        check.due("restore(0)", hat.restore(0), true);
        check.due("empty", hat.count(0), 0);
    }

    private static void all(Check check) {
        NameHat hat = new NameHat();
        check.island(hat, ISLAND, 12, 0);
        check.book(hat, "trade;sits a 1;", 2, 0);
        check.roll(hat, "a has p;b not q;", 2, 0);
        hat.spring(3);
        hat.swap(0, 1);
        hat.spring(9);
        int[] before = told(hat);
        check.due("image(0)", hat.image(0), true);
        check.due("the image leaves all", same(before, told(hat)), true);
        hat.go(1);
        hat.spring(77);
        check.book(hat, "drop a;", 1, 0);
        check.roll(hat, "", 0, 0);
        check.due("restore(0)", hat.restore(0), true);
        check.due("all is as kept", same(before, told(hat)), true);
        check.island(hat, "name z 50;house y holds z;", 2, 0);
        hat.spring(4);
        check.due("restore(0) over another ISLAND", hat.restore(0), true);
        check.due("all is as kept", same(before, told(hat)), true);
        check.book(hat, "drop a;swap b c;", 2, 0);
        check.roll(hat, "c not r;", 1, 0);
    }

    /** All that can be asked of what an image keeps. */
    private static int[] told(NameHat hat) {
        int[] answers = new int[400];
        int n = 0;
        for (int what = 0; what < 9; what++) {
            answers[n++] = hat.count(what);
        }
        for (int x = 0; x < hat.count(0); x++) {
            for (int what = 0; what < 4; what++) {
                answers[n++] = hat.surname(x, what);
            }
        }
        for (int h = 0; h < hat.count(1); h++) {
            answers[n++] = hat.house(h, 0);
            answers[n++] = hat.house(h, 1);
            answers[n++] = hat.could(h);
            for (int x = 0; x < hat.count(0); x++) {
                answers[n++] = hat.value(h, x);
                answers[n++] = hat.dealt(h, x);
            }
            for (int s = 0; s < 4; s++) {
                answers[n++] = hat.held(h, s);
            }
            answers[n++] = hat.count(5) > 0 ? (int) hat.luck(h, 6, 2) : 0;
        }
        answers[n++] = hat.go(0);
        for (int what = 0; what < 4; what++) {
            answers[n++] = hat.went(what);
        }
        answers[n++] = hat.lapsed(2);
        return answers;
    }

    private static boolean same(int[] one, int[] other) {
        return java.util.Arrays.equals(one, other);
    }

    private static void whatStays(Check check) {
        NameHat hat = new NameHat();
        check.island(hat, ISLAND, 12, 0);
        hat.image(0);
        check.due("ring()", hat.ring(), 2);
        check.due("seats()", hat.seats(), 0);
        check.book(hat, "drop c;", 1, 0);
        hat.go(0);
        Check.tell(hat, "house?");
        hat.island();
        Check.tell(hat, "abc");
        check.due("restore(0)", hat.restore(0), true);
        check.due("the tape stays", hat.count(7), 3);
        check.due("fault() stays", hat.fault(), 1);
        check.due("ringAt(1) stays", hat.ringAt(1), 1);
        check.due("seatOf(1) stays", hat.seatOf(1), 1);
        check.due("went(0) stays", hat.went(0), 1);
        check.due("the BOOK is as kept", hat.count(8), 0);
        hat.restore(1);
        check.due("the tape stays", hat.count(7), 3);
    }

    private static void counts(Check check) {
        NameHat hat = new NameHat();
        check.island(hat, ISLAND, 12, 0);
        check.book(hat, "trade;trade;trade;trade;", 4, 0);
        check.roll(hat, "a has p;b not q;a not r;", 3, 0);
        hat.spring(1);
        hat.spring(1);
        hat.feed(0, 0, 0, 0, 0);
        int[] due = {3, 3, 2, 4, 2, 2, 3, 20, 4};
        for (int what = 0; what < due.length; what++) {
            check.due("count(" + what + ")", hat.count(what), due[what]);
        }
        check.due("count(9)", hat.count(9), NameHat.NONE);
        check.due("count(-1)", hat.count(-1), NameHat.NONE);
    }
}
