import java.math.BigInteger;
import java.util.ArrayList;
import java.util.List;
import java.util.Random;

/**
 * Random runs of SPRINGS, SWAPS, BOOKs and images, with a second account of what was drawn and what was held in the
 * end, from which each answer about SPRINGS that were is told again (promises 9, 10, 18, 31 to 36).
 */
public final class SpringOracleTest {
    private static final int NONE = NameHat.NONE;

    /** What was drawn in each SPRING from 1 on, and held at the end of each but the one now, from 0 on. */
    private static final class Past {
        private final List<int[]> drawn = new ArrayList<>();
        private final List<int[]> ended = new ArrayList<>();
        private int[] now;

        Past copy() {
            Past other = new Past();
            other.drawn.addAll(drawn);
            other.ended.addAll(ended);
            other.now = now.clone();
            return other;
        }

        int[] at(int s) {
            return s == ended.size() ? now : ended.get(s);
        }
    }

    private final Check check = new Check();
    private final Random random = new Random(20261119);
    private final Past[] kept = new Past[2];
    private NameHat hat;
    private int surnames;
    private int houses;
    private int[] worths;
    private Past past;

    public static void main(String[] args) {
        SpringOracleTest test = new SpringOracleTest();
        for (int i = 0; i < 150; i++) {
            test.run();
        }
        test.check.end("SpringOracleTest");
    }

    private void run() {
        tellIsland();
        for (int i = 0; i < 60; i++) {
            change();
            for (int h = 0; h < houses; h++) {
                check.due("house(" + h + ", 0)", hat.house(h, 0), past.now[h]);
            }
            askPast();
            askGraves();
            askLuck();
        }
    }

    private void tellIsland() {
        surnames = 1 + random.nextInt(10);
        houses = 1 + random.nextInt(8);
        worths = new int[surnames];
        StringBuilder text = new StringBuilder();
        for (int x = 0; x < surnames; x++) {
            worths[x] = random.nextInt(random.nextBoolean() ? 100 : 4);
            text.append("name ").append((char) ('a' + x)).append(' ').append(worths[x])
                .append(random.nextInt(4) == 0 ? " cursed;" : ";");
        }
        past = new Past();
        past.now = new int[houses];
        boolean[] taken = new boolean[surnames];
        for (int h = 0; h < houses; h++) {
            int x = random.nextInt(surnames);
            past.now[h] = taken[x] ? NONE : x;
            text.append("house ").append((char) ('m' + h)).append(taken[x] ? ";" : " holds " + (char) ('a' + x) + ";");
            taken[x] = true;
        }
        hat = check.islandOf(text.toString());
        kept[0] = null;
        kept[1] = null;
    }

    // ==== What makes the past

    private void change() {
        switch (random.nextInt(8)) {
            case 0: case 1: case 2: spring(random.nextInt()); break;
            case 3: swap(random.nextInt(houses), random.nextInt(houses)); break;
            case 4: drop(random.nextInt(houses)); break;
            case 5: give(random.nextInt(houses), random.nextInt(houses)); break;
            case 6: image(random.nextInt(4) - 1); break;
            default: restore(random.nextInt(4) - 1);
        }
    }

    private void spring(int seed) {
        boolean more = past.drawn.size() < 24;
        check.due("spring(" + seed + ")", hat.spring(seed), more ? past.drawn.size() + 1 : NONE);
        if (!more) {
            return;
        }
        past.ended.add(past.now.clone());
        List<Integer> in = new ArrayList<>();
        for (int x = 0; x < surnames; x++) {
            in.add(x);
        }
        int x = seed;
        for (int h = 0; h < houses; h++) {
            past.now[h] = NONE;
            if (!in.isEmpty()) {
                x = x * 1103515245 + 12345;
                past.now[h] = in.remove((x >>> 8) % in.size());
            }
        }
        past.drawn.add(past.now.clone());
    }

    private void swap(int a, int b) {
        boolean can = a != b && past.now[a] != NONE && past.now[b] != NONE;
        check.due("swap(" + a + ", " + b + ")", hat.swap(a, b), can);
        if (can) {
            int x = past.now[a];
            past.now[a] = past.now[b];
            past.now[b] = x;
        }
    }

    private void drop(int h) {
        check.book(hat, "drop " + (char) ('m' + h) + ";", 1, 0);
        check.due("go(1) of drop", hat.go(1), past.now[h] == NONE ? 0 : NONE);
        past.now[h] = NONE;
    }

    private void give(int from, int to) {
        check.book(hat, "give " + (char) ('m' + from) + " " + (char) ('m' + to) + ";", 1, 0);
        boolean can = past.now[from] != NONE && past.now[to] == NONE && hat.value(to, past.now[from]) >= 0;
        check.due("go(1) of give", hat.go(1), can ? NONE : 0);
        if (can) {
            past.now[to] = past.now[from];
            past.now[from] = NONE;
        }
    }

    private void image(int k) {
        boolean such = k == 0 || k == 1;
        check.due("image(" + k + ")", hat.image(k), such);
        if (such) {
            kept[k] = past.copy();
        }
    }

    private void restore(int k) {
        boolean there = (k == 0 || k == 1) && kept[k] != null;
        check.due("restore(" + k + ")", hat.restore(k), there);
        if (there) {
            past = kept[k].copy();
        }
    }

    // ==== What is asked of it

    private static int placeOf(int[] held, int x) {
        for (int h = 0; h < held.length; h++) {
            if (held[h] == x) {
                return h;
            }
        }
        return NONE;
    }

    private void askPast() {
        int last = past.ended.size();
        check.due("count(5)", hat.count(5), last);
        int nobody = (1 << surnames) - 1;
        for (int n = 1; n <= last + 1; n++) {
            int s = last + 1 - n;
            for (int x = 0; x < surnames; x++) {
                int h = placeOf(past.at(s), x);
                check.due("keeper(" + x + ", " + s + ")", hat.keeper(x, s), h);
                nobody &= h == NONE ? -1 : ~(1 << x);
            }
            for (int h = 0; h < houses; h++) {
                check.due("held(" + h + ", " + s + ")", hat.held(h, s), past.at(s)[h]);
            }
            check.due("lapsed(" + n + ")", hat.lapsed(n), nobody);
        }
        check.due("lapsed(0)", hat.lapsed(0), NONE);
        check.due("lapsed of one too many", hat.lapsed(last + 2), NONE);
        check.due("held of the next SPRING", hat.held(0, last + 1), NONE);
        check.due("keeper of the next SPRING", hat.keeper(0, last + 1), NONE);
    }

    /** Pairs that are mostly true of one HOUSE, so that some HOUSES are left. */
    private void askGraves() {
        int h = random.nextInt(houses);
        int many = random.nextInt(random.nextBoolean() ? 4 : 23);
        StringBuilder pairs = new StringBuilder();
        int due = (1 << houses) - 1;
        boolean asTold = many <= 20;
        for (int i = 0; i < many; i++) {
            int s = random.nextInt(40) == 0 ? past.ended.size() + 1 : random.nextInt(past.ended.size() + 1);
            int x = s > past.ended.size() ? 0 : past.at(s)[h];
            x = x == NONE || random.nextInt(12) == 0 ? random.nextInt(surnames + 1) : x;
            pairs.append((char) s).append((char) x);
            asTold &= s <= past.ended.size() && x < surnames;
            int keeper = asTold ? placeOf(past.at(s), x) : NONE;
            due &= keeper == NONE ? 0 : 1 << keeper;
        }
        if (random.nextInt(20) == 0) {
            pairs.append('\0');
            asTold = false;
        }
        Check.tell(hat, pairs.toString());
        check.due("grave() of " + many + " pairs", hat.grave(), asTold ? due : NONE);
        check.due("count(7) behind grave()", hat.count(7), 0);
    }

    private void askLuck() {
        int h = random.nextInt(houses);
        int worth = random.nextBoolean() ? worths[random.nextInt(surnames)] : random.nextInt(100);
        int springs = past.drawn.size();
        if (springs == 0 || springs > 12) {
            check.isMissing("luck() of " + springs + " SPRINGS", () -> hat.luck(h, worth, 2));
            check.due("unfair() of " + springs + " SPRINGS", hat.unfair(h, worth, 1, 1), NONE);
            return;
        }
        int good = 0;
        for (int one : worths) {
            good += one >= worth ? 1 : 0;
        }
        int drew = 0;
        for (int[] draws : past.drawn) {
            drew += draws[h] != NONE && worths[draws[h]] >= worth ? 1 : 0;
        }
        BigInteger above = BigInteger.ZERO;
        for (int many = drew; many <= springs; many++) {
            above = above.add(waysToDraw(springs, many, good));
        }
        BigInteger below = BigInteger.valueOf(surnames).pow(springs);
        BigInteger most = above.gcd(below);
        check.due("luck(.., 0)", hat.luck(h, worth, 0), above.divide(most).longValueExact());
        check.due("luck(.., 1)", hat.luck(h, worth, 1), below.divide(most).longValueExact());
        check.due("luck(.., 2)", hat.luck(h, worth, 2), drew);
        int p = random.nextInt(1000);
        int q = 1 + random.nextInt(999);
        boolean unfair = above.multiply(BigInteger.valueOf(q)).compareTo(below.multiply(BigInteger.valueOf(p))) <= 0;
        check.due("unfair(.., " + p + ", " + q + ")", hat.unfair(h, worth, p, q), unfair ? 1 : 0);
    }

    /** So many of the SPRINGS chosen, a good SURNAME in each of these and another in the others. */
    private BigInteger waysToDraw(int springs, int many, int good) {
        BigInteger ways = BigInteger.valueOf(good).pow(many).multiply(BigInteger.valueOf(surnames - good).pow(springs - many));
        for (int i = 0; i < many; i++) {
            ways = ways.multiply(BigInteger.valueOf(springs - i));
        }
        for (int i = 1; i <= many; i++) {
            ways = ways.divide(BigInteger.valueOf(i));
        }
        return ways;
    }
}
