/** Promises 1 to 3: a new object, feed, end. */
public final class TapeTest {
    public static void main(String[] args) {
        Check check = new Check();
        newObject(check);
        emptyIsland(check);
        feeding(check);
        ending(check);
        check.end("TapeTest");
    }

    private static void newObject(Check check) {
        NameHat hat = new NameHat();
        int[] due = {0, 0, 1, 8, 0, 0, 0, 0, 0};
        for (int what = 0; what < due.length; what++) {
            check.due("new: count(" + what + ")", hat.count(what), due[what]);
        }
        check.due("new: fault()", hat.fault(), 0);
        check.due("new: went(0)", hat.went(0), NameHat.NONE);
        check.due("new: ringAt(0)", hat.ringAt(0), NameHat.NONE);
        check.due("new: seatOf(0)", hat.seatOf(0), NameHat.NONE);
        check.due("new: sit()", hat.sit(), false);
        check.due("new: restore(0)", hat.restore(0), false);
        check.due("NONE", NameHat.NONE, -1);
    }

    /** "An empty ISLAND; an empty tape": each call on a new object. */
    private static void emptyIsland(Check check) {
        NameHat hat = new NameHat();
        check.isMissing("new: surname(0, 0)", () -> hat.surname(0, 0));
        check.isMissing("new: house(0, 0)", () -> hat.house(0, 0));
        check.isMissing("new: value(0, 0)", () -> hat.value(0, 0));
        check.isMissing("new: waiting(0, 0)", () -> hat.waiting(0, 0));
        check.isMissing("new: wedding(0, 1, 0, 0)", () -> hat.wedding(0, 1, 0, 0));
        check.isMissing("new: luck(0, 0, 0)", () -> hat.luck(0, 0, 0));
        int[] none = {hat.spring(0), hat.held(0, 0), hat.ring(), hat.ringAt(0), hat.went(0), hat.keeper(0, 0), hat.envy(0),
            hat.seatOf(0), hat.dealt(0, 0), hat.could(0), hat.lapsed(0), hat.lapsed(2), hat.unfair(0, 0, 1, 1)};
        for (int i = 0; i < none.length; i++) {
            check.due("new: NONE, " + i, none[i], NameHat.NONE);
        }
        check.due("new: swap(0, 1)", hat.swap(0, 1), false);
        check.due("new: sit()", hat.sit(), false);
        check.due("new: trade()", hat.trade(), 0);
        check.due("new: worth()", hat.worth(), 0);
        check.due("new: broken()", hat.broken(), 0);
        check.due("new: grave()", hat.grave(), 0);
        check.due("new: lapsed(1)", hat.lapsed(1), 0);
        check.due("new: dealings()", hat.dealings(), 1);
        check.due("new: go(0)", hat.go(0), NameHat.NONE);
        for (int what = 0; what < 4; what++) {
            check.due("new: went(" + what + ")", hat.went(what), 0);
        }
        check.due("new: seats()", hat.seats(), 0);
        check.due("new: sit() behind seats()", hat.sit(), true);
        check.due("new: island() of an empty tape", hat.island(), 0);
        check.due("new: book() of an empty tape", hat.book(), 0);
        check.due("new: roll() of an empty tape", hat.roll(), 0);
        check.due("new: restore(1)", hat.restore(1), false);
        check.due("new: image(1)", hat.image(1), true);
        check.due("new: restore(1) of it", hat.restore(1), true);
        NameHat other = new NameHat();
        check.due("another object is another", other.restore(1), false);
    }

    private static void feeding(Check check) {
        NameHat hat = new NameHat();
        for (int i = 1; i <= 47; i++) {
            check.due("feed " + i, hat.feed(i, -i, 0, Integer.MIN_VALUE, Integer.MAX_VALUE), 20 * i);
        }
        check.due("feed over 940", hat.feed(1, 2, 3, 4, 5), NameHat.NONE);
        check.due("count(7)", hat.count(7), 940);
        check.due("end(921)", hat.end(921), true);
        check.due("feed from 921", hat.feed(1, 2, 3, 4, 5), NameHat.NONE);
        check.due("count(7)", hat.count(7), 921);
        check.due("end(920)", hat.end(920), true);
        check.due("feed from 920", hat.feed(1, 2, 3, 4, 5), 940);
        // 'name', ' p 1', ' ;' and blanks: the highest byte of each number comes first.
        hat = new NameHat();
        check.due("feed", hat.feed(0x6e616d65, 0x20702031, 0x203b2020, 0x0a0a0a0a, 0x0a0a0a20), 20);
        check.due("island()", hat.island(), 1);
        check.due("WORTH", hat.surname(0, 0), 1);
        check.due("feed goes on behind", hat.feed(0x686f7573, 0x65202020, 0x20202020, 0x20202020, 0x20202020), 20);
        check.due("feed goes on behind", hat.feed(0x683b2020, 0x20202020, 0x20202020, 0x20202020, 0x20202020), 40);
        check.due("island() of two feeds", hat.island(), 1);
        check.due("HOUSES", hat.count(1), 1);
    }

    private static void ending(Check check) {
        NameHat hat = new NameHat();
        check.due("end(0) of none", hat.end(0), true);
        check.due("end(1) of none", hat.end(1), false);
        check.due("end(-1)", hat.end(-1), false);
        hat.feed(0, 0, 0, 0, 0);
        check.due("end(21)", hat.end(21), false);
        check.due("end(-1)", hat.end(-1), false);
        check.due("end(min)", hat.end(Integer.MIN_VALUE), false);
        check.due("count(7) stays", hat.count(7), 20);
        check.due("end(20)", hat.end(20), true);
        check.due("end(7)", hat.end(7), true);
        check.due("count(7)", hat.count(7), 7);
        check.due("end(8)", hat.end(8), false);
        check.due("feed from 7", hat.feed(0, 0, 0, 0, 0), 27);
    }
}
