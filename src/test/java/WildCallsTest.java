import java.util.NoSuchElementException;
import java.util.Random;

/**
 * Runs of 512 calls with any numbers and with texts that are nearly right: nothing but the exception that
 * the document names is ever thrown, and the same calls always give the same answers.
 */
public final class WildCallsTest {
    private static final String[] SCRAPS = {"name ", "house ", "wants ", "feud ", "pews ", "sits ", "field ", "holds ",
        "cursed", "pawned", "swap ", "give ", "drop ", "take ", "trade", "has ", "not ", "a ", "b ", "c ", "m ", "n ",
        "o ", "1 ", "0 ", "2 ", "99 ", "100 ", ";", ";", ";", " ", "\n", "?", "abcdefgh ", "name d 5;", "house p;"};
    private static final String ISLAND = "name a 10;name b 20 cursed;name c 5;name d 7 pawned;name e 9;house m holds a;"
        + "house n holds b;house o;house p;wants m c 9;feud a b;feud c a;pews 3 2;sits n 1;field 4;";
    private static final String BOOK = "swap m n;give m o;drop n;take p e;sits o 1;trade;sits m 2;trade;";
    private static final String ROLL = "m has a;n not b;o not c;p not d;";

    public static void main(String[] args) {
        Check check = new Check();
        for (int run = 0; run < 200; run++) {
            long first = runOf(check, run);
            check.due("run " + run + " a second time", runOf(check, run), first);
        }
        check.end("WildCallsTest");
    }

    private static long runOf(Check check, int run) {
        Random random = new Random(run);
        NameHat hat = new NameHat();
        long sum = 0;
        for (int call = 0; call < 512; call++) {
            int which = random.nextInt(42);
            try {
                sum = sum * 31 + answer(hat, which, random);
            } catch (NoSuchElementException missing) {
                sum = sum * 31 + 7;
                check.due("call " + which + " may throw", mayThrow(which), true);
            } catch (RuntimeException thrown) {
                check.due("run " + run + ", call " + which + ": " + thrown, 1, 0);
            }
        }
        return sum;
    }

    private static boolean mayThrow(int which) {
        return which >= 10 && which <= 15;
    }

    /** Mostly a number that there is, now and then any. */
    private static int any(Random random) {
        int way = random.nextInt(10);
        int[] edges = {Integer.MIN_VALUE, Integer.MAX_VALUE, -1, 8, 10, 24, 25, 31, 32, 33, 100, 1000, -32};
        return way < 7 ? random.nextInt(4) : way < 9 ? edges[random.nextInt(edges.length)] : random.nextInt();
    }

    private static int tell(NameHat hat, Random random, String good) {
        StringBuilder text = new StringBuilder(good);
        int way = random.nextInt(5);
        for (int i = random.nextInt(30); way == 0 && i > 0; i--) {
            text.append(SCRAPS[random.nextInt(SCRAPS.length)]);
        }
        if (way == 1) {
            text.setCharAt(random.nextInt(text.length()), (char) random.nextInt(256));
        } else if (way == 2) {
            text.insert(random.nextInt(text.length()), SCRAPS[random.nextInt(SCRAPS.length)]);
        } else if (way == 3 && random.nextInt(4) == 0) {
            text.append(Check.many(" ", 940));
        }
        Check.tell(hat, text.toString());
        return 0;
    }

    private static int bit(boolean answer) {
        return answer ? 1 : 0;
    }

    private static long answer(NameHat hat, int which, Random random) {
        int a = any(random);
        int b = any(random);
        int c = any(random);
        int d = any(random);
        switch (which) {
            case 0: case 1: return tell(hat, random, ISLAND) + hat.island();
            case 2: case 3: return tell(hat, random, BOOK) + hat.book();
            case 4: case 5: return tell(hat, random, ROLL) + hat.roll();
            case 6: return hat.feed(a, b, c, d, random.nextInt());
            case 7: return bit(hat.end(a));
            case 8: return hat.fault();
            case 9: return hat.count(a);
            case 10: return hat.surname(a, b);
            case 11: return hat.house(a, b);
            case 12: return hat.value(a, b);
            case 13: return hat.waiting(a, b);
            case 14: return hat.wedding(a, b, c, d);
            case 15: return hat.luck(a, random.nextInt(110), b);
            case 16: case 17: case 18: return hat.spring(random.nextInt());
            case 19: return hat.held(a, b);
            case 20: return bit(hat.swap(a, b));
            case 21: return hat.ring();
            case 22: return hat.ringAt(a);
            case 23: return hat.trade();
            case 24: return hat.go(a);
            case 25: return hat.went(a);
            case 26: return hat.keeper(a, b);
            case 27: return hat.envy(a);
            case 28: return hat.worth();
            case 29: return hat.broken();
            case 30: return hat.seats();
            case 31: return hat.seatOf(a);
            case 32: return bit(hat.sit());
            case 33: return hat.dealings();
            case 34: return hat.dealt(a, b);
            case 35: return hat.could(a);
            case 36: return hat.grave();
            case 37: return hat.lapsed(a);
            case 38: return hat.unfair(a, b, c, d);
            case 39: return bit(hat.image(a));
            case 40: return bit(hat.restore(a));
            default: return hat.go(1);
        }
    }
}
