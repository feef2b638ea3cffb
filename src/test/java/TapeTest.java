/** Promises 1 to 3: a new object, feed, end. */
public final class TapeTest {
    public static void main(String[] args) {
        Check check = new Check();
        newObject(check);
        feeding(check);
        ending(check);
        check.end("TapeTest");
    }

    private static void newObject(Check check) {
        NameHat hat = new NameHat();
        int[] due = {0, 0, 1, 8, 0, 0, 0, 0, 0};
        for (int what = 0; what < due.length; what++) {
            check.due("new: count(" + what + ")", hat.count(what), due[what]);
        }
        check.due("new: fault()", hat.fault(), 0);
        check.due("new: went(0)", hat.went(0), NameHat.NONE);
        check.due("new: ringAt(0)", hat.ringAt(0), NameHat.NONE);
        check.due("new: seatOf(0)", hat.seatOf(0), NameHat.NONE);
        check.due("new: sit()", hat.sit(), false);
        check.due("new: restore(0)", hat.restore(0), false);
        check.due("NONE", NameHat.NONE, -1);
    }

    private static void feeding(Check check) {
        NameHat hat = new NameHat();
        for (int i = 1; i <= 47; i++) {
            check.due("feed " + i, hat.feed(i, -i, 0, Integer.MIN_VALUE, Integer.MAX_VALUE), 20 * i);
        }
        check.due("feed over 940", hat.feed(1, 2, 3, 4, 5), NameHat.NONE);
        check.due("count(7)", hat.count(7), 940);
        check.due("end(921)", hat.end(921), true);
        check.due("feed from 921", hat.feed(1, 2, 3, 4, 5), NameHat.NONE);
        check.due("count(7)", hat.count(7), 921);
        check.due("end(920)", hat.end(920), true);
        check.due("feed from 920", hat.feed(1, 2, 3, 4, 5), 940);
        // 'name', ' p 1', ' ;' and blanks: the highest byte of each number comes first.
        hat = new NameHat();
        check.due("feed", hat.feed(0x6e616d65, 0x20702031, 0x203b2020, 0x0a0a0a0a, 0x0a0a0a20), 20);
        check.due("island()", hat.island(), 1);
        check.due("WORTH", hat.surname(0, 0), 1);
        check.due("feed goes on behind", hat.feed(0x686f7573, 0x65202020, 0x20202020, 0x20202020, 0x20202020), 20);
        check.due("feed goes on behind", hat.feed(0x683b2020, 0x20202020, 0x20202020, 0x20202020, 0x20202020), 40);
        check.due("island() of two feeds", hat.island(), 1);
        check.due("HOUSES", hat.count(1), 1);
    }

    private static void ending(Check check) {
        NameHat hat = new NameHat();
        check.due("end(0) of none", hat.end(0), true);
        check.due("end(1) of none", hat.end(1), false);
        check.due("end(-1)", hat.end(-1), false);
        hat.feed(0, 0, 0, 0, 0);
        check.due("end(21)", hat.end(21), false);
        check.due("end(-1)", hat.end(-1), false);
        check.due("end(min)", hat.end(Integer.MIN_VALUE), false);
        check.due("count(7) stays", hat.count(7), 20);
        check.due("end(20)", hat.end(20), true);
        check.due("end(7)", hat.end(7), true);
        check.due("count(7)", hat.count(7), 7);
        check.due("end(8)", hat.end(8), false);
        check.due("feed from 7", hat.feed(0, 0, 0, 0, 0), 27);
    }
}
