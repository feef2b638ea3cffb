import java.util.Random;

/**
 * Random ISLANDS, with every answer that has to be searched or counted found a second time by trying all
 * there is (promises 12, 14, 19 to 26, 28 to 30). The random numbers have a written seed.
 */
public final class BruteForceTest {
    private final Check check;
    private final Random random;
    private NameHat hat;
    private int surnames;
    private int houses;
    private int[] fits;

    private BruteForceTest(Check check, Random random) {
        this.check = check;
        this.random = random;
    }

    public static void main(String[] args) {
        Check check = new Check();
        Random random = new Random(20261118);
        for (int i = 0; i < 400; i++) {
            new BruteForceTest(check, random).one();
        }
        check.end("BruteForceTest");
    }

    private void one() {
        tellIsland();
        for (int round = 0; round < 3; round++) {
            sums();
            ring();
            seats();
            dealings();
            trade();
            hat.spring(random.nextInt());
            if (random.nextBoolean() && hat.seats() >= 0) {
                hat.sit();
            }
        }
    }

    private void tellIsland() {
        surnames = 1 + random.nextInt(random.nextBoolean() ? 10 : 5);
        houses = 1 + random.nextInt(random.nextBoolean() ? 8 : 4);
        StringBuilder text = new StringBuilder();
        String[] kinds = {"", "", "", "", " cursed", " pawned"};
        for (int x = 0; x < surnames; x++) {
            text.append("name ").append((char) ('a' + x)).append(' ').append(random.nextInt(20))
                .append(kinds[random.nextInt(kinds.length)]).append(';');
        }
        boolean[] held = new boolean[surnames];
        for (int h = 0; h < houses; h++) {
            int x = random.nextInt(surnames);
            text.append("house ").append((char) ('m' + h));
            text.append(held[x] ? "" : " holds " + (char) ('a' + x)).append(';');
            held[x] = true;
        }
        for (int h = 0; h < houses; h++) {
            for (int x = 0; x < surnames && text.length() < 700; x++) {
                if (random.nextInt(5) == 0) {
                    text.append("wants ").append((char) ('m' + h)).append(' ').append((char) ('a' + x)).append(' ')
                        .append(random.nextInt(30)).append(';');
                }
            }
        }
        int often = 2 + random.nextInt(8);
        for (int x = 0; x < surnames; x++) {
            for (int y = 0; y < x && text.length() < 780; y++) {
                if (random.nextInt(often) == 0) {
                    text.append("feud ").append((char) ('a' + x)).append(' ').append((char) ('a' + y)).append(';');
                }
            }
        }
        int pews = 1 + random.nextInt(4);
        text.append("pews ").append(pews).append(' ').append(1 + random.nextInt(8)).append(';');
        for (int h = 0; h < houses && text.length() < 860; h++) {
            if (random.nextInt(3) > 0) {
                text.append("sits ").append((char) ('m' + h)).append(' ').append(random.nextInt(pews)).append(';');
            }
        }
        text.append("field ").append(random.nextInt(30)).append(';');
        hat = check.islandOf(text.toString());
    }

    private int own(int h) {
        return hat.house(h, 0) < 0 ? 0 : hat.value(h, hat.house(h, 0));
    }

    private boolean trades(int h) {
        int x = hat.house(h, 0);
        return x >= 0 && hat.surname(x, 1) != 2;
    }

    private boolean feud(int h, int g) {
        int x = hat.house(h, 0);
        int y = hat.house(g, 0);
        return x >= 0 && y >= 0 && (hat.surname(x, 3) >> y & 1) == 1;
    }

    private void sums() {
        int worth = 0;
        int broken = 0;
        for (int h = 0; h < houses; h++) {
            worth += own(h);
            int envy = 0;
            for (int g = 0; g < houses; g++) {
                int x = hat.house(h, 0);
                envy += x >= 0 && hat.value(g, x) > own(g) ? 1 : 0;
                broken += g < h && feud(g, h) && hat.house(g, 1) == hat.house(h, 1) ? 1 : 0;
            }
            check.due("envy(" + h + ")", hat.envy(h), hat.house(h, 0) < 0 ? -1 : envy);
            int all = 0;
            for (int x = 0; x < surnames; x++) {
                all += hat.value(h, x);
            }
            check.due("waiting", (long) hat.waiting(h, 0) * surnames, (long) all * hat.waiting(h, 1));
            for (int g = 0; g < houses && surnames > 1; g++) {
                if (g != h) {
                    wedding(h, g);
                }
            }
        }
        check.due("worth()", hat.worth(), worth);
        check.due("broken()", hat.broken(), broken);
    }

    private void wedding(int a, int b) {
        int before = 0;
        int behind = 0;
        for (int x = 0; x < surnames; x++) {
            before += hat.value(a, x) + hat.value(b, x);
            for (int y = 0; y < surnames; y++) {
                int best = Math.max(hat.value(a, x) + hat.value(b, x), hat.value(a, y) + hat.value(b, y));
                behind += x == y ? 0 : best;
            }
        }
        int[] all = {before, behind};
        int[] by = {surnames, surnames * (surnames - 1)};
        for (int when = 0; when < 2; when++) {
            int above = hat.wedding(a, b, when, 0);
            int below = hat.wedding(a, b, when, 1);
            check.due("wedding " + when, (long) above * by[when], (long) all[when] * below);
            check.due("least numbers", java.math.BigInteger.valueOf(above).gcd(java.math.BigInteger.valueOf(below)).intValue(), 1);
            check.due("below above 0", below > 0, true);
        }
    }

    // ==== RINGS: all rows of HOUSES, as they rise

    private void ring() {
        int[] best = null;
        for (int length = 2; length <= houses && best == null; length++) {
            best = firstRing(new int[length], 0);
        }
        int got = hat.ring();
        check.due("ring()", got, best == null ? -1 : best.length);
        for (int i = 0; best != null && i < best.length; i++) {
            check.due("ringAt(" + i + ")", hat.ringAt(i), best[i]);
        }
    }

    private int[] firstRing(int[] row, int at) {
        if (at == row.length) {
            for (int i = 0; i < row.length; i++) {
                int h = row[i];
                int next = row[(i + 1) % row.length];
                if (!trades(h) || !trades(next) || hat.value(h, hat.house(next, 0)) <= own(h) || h < row[0]) {
                    return null;
                }
            }
            return row;
        }
        for (int h = 0; h < houses; h++) {
            boolean there = false;
            for (int i = 0; i < at; i++) {
                there |= row[i] == h;
            }
            // Only rows whose HOUSES so far want on are worth going on with.
            if (!there && trades(h) && (at == 0
                || trades(row[at - 1]) && hat.value(row[at - 1], hat.house(h, 0)) > own(row[at - 1]))) {
                row[at] = h;
                int[] found = firstRing(row, at + 1);
                if (found != null) {
                    return found;
                }
            }
        }
        return null;
    }

    // ==== SEATED: all ways to sit

    private void seats() {
        int pews = hat.count(2);
        int ways = 1;
        for (int h = 0; h < houses; h++) {
            ways *= pews;
        }
        boolean[][] feuds = new boolean[houses][houses];
        int[] now = new int[houses];
        for (int h = 0; h < houses; h++) {
            now[h] = hat.house(h, 1);
            for (int g = 0; g < houses; g++) {
                feuds[h][g] = feud(h, g);
            }
        }
        int fewest = houses + 1;
        int[] best = null;
        for (int way = 0; way < ways; way++) {
            int[] sits = new int[houses];
            int rest = way;
            int moves = 0;
            for (int h = houses - 1; h >= 0; h--) {
                sits[h] = rest % pews;
                rest /= pews;
                moves += sits[h] == now[h] ? 0 : 1;
            }
            if (moves < fewest && isFine(sits, feuds, hat.count(3))) {
                fewest = moves;
                best = sits;
            }
        }
        check.due("seats()", hat.seats(), best == null ? -1 : fewest);
        for (int h = 0; best != null && h < houses; h++) {
            check.due("seatOf(" + h + ")", hat.seatOf(h), best[h]);
        }
    }

    private static boolean isFine(int[] sits, boolean[][] feuds, int seats) {
        int[] many = new int[4];
        for (int h = 0; h < sits.length; h++) {
            many[sits[h]]++;
            if (many[sits[h]] > seats) {
                return false;
            }
            for (int g = 0; g < h; g++) {
                if (sits[g] == sits[h] && feuds[g][h]) {
                    return false;
                }
            }
        }
        return true;
    }

    // ==== DEALINGS: all ways to deal, while they are few enough

    private void dealings() {
        StringBuilder text = new StringBuilder();
        int lines = random.nextInt(20);
        fits = new int[houses];
        java.util.Arrays.fill(fits, (1 << surnames) - 1);
        for (int i = 0; i < lines; i++) {
            int h = random.nextInt(houses);
            int x = random.nextInt(surnames);
            boolean has = random.nextInt(8) == 0;
            text.append((char) ('m' + h)).append(has ? " has " : " not ").append((char) ('a' + x)).append(';');
            fits[h] &= has ? 1 << x : ~(1 << x);
        }
        check.roll(hat, text.toString(), lines, 0);
        if (surnames > 8) {
            return;
        }
        int[][] many = new int[houses][surnames];
        int all = deal(many, new int[houses], 0, 0);
        check.due("dealings()", hat.dealings(), all);
        for (int h = 0; h < houses; h++) {
            int could = 0;
            for (int x = 0; x < surnames; x++) {
                check.due("dealt(" + h + ", " + x + ")", hat.dealt(h, x), many[h][x]);
                could |= many[h][x] > 0 ? 1 << x : 0;
            }
            check.due("could(" + h + ")", hat.could(h), could);
        }
    }

    private int deal(int[][] many, int[] has, int h, int used) {
        if (h == houses) {
            for (int g = 0; g < houses; g++) {
                many[g][has[g]]++;
            }
            return 1;
        }
        int all = 0;
        for (int x = 0; x < surnames; x++) {
            if ((used >> x & 1) == 0 && (fits[h] >> x & 1) == 1) {
                has[h] = x;
                all += deal(many, has, h + 1, used | 1 << x);
            }
        }
        return all;
    }

    // ==== TRADED: one circle after another, found by walking from the greatest HOUSE that is left

    private void trade() {
        boolean[] left = new boolean[houses];
        int[] due = new int[houses];
        int circles = 0;
        for (int h = 0; h < houses; h++) {
            left[h] = trades(h);
            due[h] = hat.house(h, 0);
        }
        for (int h = houses - 1; h >= 0; h--) {
            while (left[h]) {
                int at = h;
                for (int i = 0; i < houses; i++) {
                    at = pointsTo(at, left);
                }
                int length = 0;
                int from = at;
                do {
                    length++;
                    int next = pointsTo(at, left);
                    due[at] = hat.house(next, 0);
                    at = next;
                } while (at != from);
                circles += length > 1 ? 1 : 0;
                int[] members = new int[length];
                for (int i = 0; i < length; i++) {
                    members[i] = at;
                    at = pointsTo(at, left);
                }
                for (int one : members) {
                    left[one] = false;
                }
            }
        }
        check.due("trade()", hat.trade(), circles);
        for (int h = 0; h < houses; h++) {
            check.due("house(" + h + ", 0) traded", hat.house(h, 0), due[h]);
        }
    }

    private int pointsTo(int h, boolean[] left) {
        int best = h;
        for (int g = houses - 1; g >= 0; g--) {
            if (left[g]) {
                int gives = hat.value(h, hat.house(g, 0));
                int most = hat.value(h, hat.house(best, 0));
                if (gives > most || gives == most && best != h && g < best) {
                    best = g;
                }
            }
        }
        return best;
    }
}
