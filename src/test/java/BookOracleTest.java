import java.util.Random;

/**
 * Random BOOKs, done a second time by an oracle that knows the ISLAND by value(), surname() and house() alone
 * (promises 15 to 17, 11, 14, 20).
 */
public final class BookOracleTest {
    private static final int NONE = NameHat.NONE;

    private final Check check = new Check();
    private final Random random = new Random(4711);
    private NameHat hat;
    private int surnames;
    private int houses;
    private int[] held;
    private int[] sits;

    public static void main(String[] args) {
        BookOracleTest test = new BookOracleTest();
        for (int i = 0; i < 1500; i++) {
            test.one();
        }
        test.check.end("BookOracleTest");
    }

    private void one() {
        tellIsland();
        for (int round = 0; round < 3; round++) {
            int lines = random.nextInt(random.nextBoolean() ? 5 : 31);
            String[] book = new String[lines];
            StringBuilder text = new StringBuilder();
            seeAll();
            int[] heldAhead = held.clone();
            int[] sitsAhead = sits.clone();
            for (int i = 0; i < lines; i++) {
                book[i] = lineMostlyRight();
                text.append(book[i]).append(';');
            }
            held = heldAhead;
            sits = sitsAhead;
            check.book(hat, text.toString(), lines, 0);
            int does = random.nextInt(2);
            goes(book, does);
            if (random.nextInt(4) == 0) {
                hat.spring(random.nextInt());
            }
        }
    }

    private void goes(String[] book, int does) {
        int[] heldAhead = held.clone();
        int[] sitsAhead = sits.clone();
        int why = 0;
        int line = 0;
        while (line < book.length && why == 0) {
            why = done(book[line].split(" "));
            line += why == 0 ? 1 : 0;
        }
        String told = String.join(";", book);
        check.due("go(" + does + ") of " + told, hat.go(does), why == 0 ? NONE : line);
        check.due("went(0) of " + told, hat.went(0), why);
        check.due("went(1) of " + told, hat.went(1), line);
        int worth = 0;
        int many = 0;
        for (int h = 0; h < houses; h++) {
            worth += own(h);
            many += held[h] == NONE ? 0 : 1;
        }
        check.due("went(2) of " + told, hat.went(2), worth);
        check.due("went(3) of " + told, hat.went(3), many);
        for (int h = 0; h < houses; h++) {
            check.due("house(" + h + ", 0) behind " + told, hat.house(h, 0), does == 1 ? held[h] : heldAhead[h]);
            check.due("house(" + h + ", 1) behind " + told, hat.house(h, 1), does == 1 ? sits[h] : sitsAhead[h]);
        }
    }

    private void seeAll() {
        held = new int[houses];
        sits = new int[houses];
        for (int h = 0; h < houses; h++) {
            held[h] = hat.house(h, 0);
            sits[h] = hat.house(h, 1);
        }
    }

    // ==== What a LINE does

    private int own(int h) {
        return held[h] == NONE ? 0 : hat.value(h, held[h]);
    }

    private boolean pawned(int x) {
        return hat.surname(x, 1) == 2;
    }

    private int done(String[] line) {
        int a = line.length > 1 ? line[1].charAt(0) - 'm' : 0;
        switch (line[0]) {
            case "swap": case "give": return handsOn(line[0].equals("swap"), a, line[2].charAt(0) - 'm');
            case "drop":
                if (held[a] == NONE || pawned(held[a])) {
                    return held[a] == NONE ? 1 : 2;
                }
                held[a] = NONE;
                return 0;
            case "take": return take(a, line[2].charAt(0) - 'a');
            case "sits": return sit(a, Integer.parseInt(line[2]));
            default:
                trade();
                return 0;
        }
    }

    private int handsOn(boolean swap, int a, int b) {
        if (a == b || held[a] == NONE || (held[b] == NONE) == swap) {
            return 1;
        }
        if (pawned(held[a]) || swap && pawned(held[b])) {
            return 2;
        }
        boolean less = hat.value(b, held[a]) < own(b) || swap && hat.value(a, held[b]) < own(a);
        if (!less) {
            int x = held[a];
            held[a] = held[b];
            held[b] = x;
        }
        return less ? 3 : 0;
    }

    private int take(int h, int x) {
        if (held[h] != NONE || pawned(x)) {
            return held[h] != NONE ? 1 : 2;
        }
        for (int one : held) {
            if (one == x) {
                return 4;
            }
        }
        held[h] = x;
        return 0;
    }

    private int sit(int h, int pew) {
        int there = 0;
        for (int one : sits) {
            there += one == pew ? 1 : 0;
        }
        if (sits[h] == pew || there >= hat.count(3)) {
            return sits[h] == pew ? 5 : 6;
        }
        sits[h] = pew;
        return 0;
    }

    /** One circle after another: from any HOUSE that is left, along what it points to, until one comes again. */
    private void trade() {
        boolean[] left = new boolean[houses];
        int[] ahead = held.clone();
        for (int h = 0; h < houses; h++) {
            left[h] = held[h] != NONE && !pawned(held[h]);
        }
        for (int h = 0; h < houses; h++) {
            while (left[h]) {
                int at = h;
                for (int i = 0; i < houses; i++) {
                    at = pointsTo(at, left, ahead);
                }
                int begin = at;
                int[] circle = new int[houses];
                int many = 0;
                do {
                    circle[many++] = at;
                    at = pointsTo(at, left, ahead);
                } while (at != begin);
                for (int i = 0; i < many; i++) {
                    held[circle[i]] = ahead[circle[(i + 1) % many]];
                    left[circle[i]] = false;
                }
            }
        }
    }

    private int pointsTo(int h, boolean[] left, int[] ahead) {
        int best = h;
        for (int g = 0; g < houses; g++) {
            if (left[g] && hat.value(h, ahead[g]) > hat.value(h, ahead[best])) {
                best = g;
            }
        }
        return best;
    }

    // ==== Texts

    private String house() {
        return " " + (char) ('m' + random.nextInt(houses));
    }

    private String anyLine() {
        switch (random.nextInt(7)) {
            case 0: return "swap" + house() + house();
            case 1: return "give" + house() + house();
            case 2: return "drop" + house();
            case 3: case 4: return "take" + house() + " " + (char) ('a' + random.nextInt(surnames));
            case 5: return "sits" + house() + " " + random.nextInt(hat.count(2));
            default: return random.nextInt(4) == 0 ? "trade" : "drop" + house();
        }
    }

    /** A LINE that can be done then, nearly always, so that a BOOK goes far. */
    private String lineMostlyRight() {
        String line = anyLine();
        for (int i = 0; i < 20; i++) {
            if (done(line.split(" ")) == 0 || random.nextInt(30) == 0) {
                return line;
            }
            line = anyLine();
        }
        return line;
    }

    private void tellIsland() {
        surnames = 1 + random.nextInt(10);
        houses = 1 + random.nextInt(8);
        StringBuilder text = new StringBuilder();
        String[] kinds = {"", "", "", " cursed", " pawned"};
        for (int x = 0; x < surnames; x++) {
            text.append("name ").append((char) ('a' + x)).append(' ').append(random.nextInt(5))
                .append(kinds[random.nextInt(kinds.length)]).append(';');
        }
        boolean[] taken = new boolean[surnames];
        for (int h = 0; h < houses; h++) {
            int x = random.nextInt(surnames);
            text.append("house ").append((char) ('m' + h));
            text.append(taken[x] ? "" : " holds " + (char) ('a' + x)).append(';');
            taken[x] = true;
        }
        for (int h = 0; h < houses; h++) {
            for (int x = 0; x < surnames && text.length() < 800; x++) {
                if (random.nextInt(4) == 0) {
                    text.append("wants ").append((char) ('m' + h)).append(' ').append((char) ('a' + x)).append(' ')
                        .append(random.nextInt(6)).append(';');
                }
            }
        }
        text.append("pews ").append(1 + random.nextInt(4)).append(' ').append(1 + random.nextInt(8)).append(";field ")
            .append(random.nextInt(5)).append(';');
        hat = check.islandOf(text.toString());
    }
}
