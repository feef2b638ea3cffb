import java.util.ArrayList;
import java.util.HashSet;
import java.util.List;
import java.util.Random;
import java.util.Set;

/**
 * Random texts, nearly right, read a second time by a reader that works from a table: each LINE is a row of what may
 * come. It cuts the whole text into TOKENS first and knows nothing of how the program reads.
 */
public final class TextOracleTest {
    private static final Set<String> KEPT = Set.of("name", "cursed", "pawned", "house", "holds", "wants", "feud", "pews",
        "sits", "field", "has", "not", "swap", "give", "drop", "take", "trade");
    // S, H: a new one; s, h: one that is told; number ranges as least-most.
    private static final String[] ISLAND = {"name S 0-99 ?cursed|pawned", "house H ?holds:free", "wants h two 0-99",
        "feud s other", "pews 1-4 1-8", "sits once pew", "field 0-99"};
    private static final String[] BOOK = {"swap h h", "give h h", "drop h", "take h s", "sits h pew", "trade"};
    private static final String SIGNS = "abcdefghijklmnopqrstuvwxyz0123456789";
    private static final String[] WORDS = {"name", "house", "wants", "feud", "pews", "sits", "field", "holds", "cursed",
        "pawned", "swap", "give", "drop", "take", "trade", "has", "not", "a", "b", "c", "m", "n", "o", "x", "abcdefg",
        "abcdefgh", "a1", "0", "1", "2", "3", "5", "9", "99", "100", "007", ";", ";", "?", ".", "A", "\t"};

    private final Check check = new Check();
    private final Random random = new Random(20261119);

    // What the oracle has read so far.
    private List<String> tokens;
    private List<Integer> places;
    private int at;
    private int fault;
    private int place;
    private final List<String> surnames = new ArrayList<>();
    private final List<String> houses = new ArrayList<>();
    private final Set<String> done = new HashSet<>();
    private int pews;
    private String first;

    public static void main(String[] args) {
        TextOracleTest test = new TextOracleTest();
        for (int i = 0; i < 2500; i++) {
            test.oneIsland();
        }
        for (int i = 0; i < 2000; i++) {
            test.oneBook(i % 2 == 0);
        }
        test.check.end("TextOracleTest");
    }

    // ==== The oracle

    /** All TOKENS ahead of the most bytes; the last one is the end, or what is none. */
    private void cut(String text, int most) {
        tokens = new ArrayList<>();
        places = new ArrayList<>();
        at = 0;
        int i = 0;
        while (i < text.length() && i < most) {
            char c = text.charAt(i);
            int end = i + 1;
            if (SIGNS.indexOf(c) >= 0) {
                while (end < text.length() && SIGNS.indexOf(text.charAt(end)) >= 0) {
                    end++;
                }
            }
            if (c != ' ' && c != '\n') {
                tokens.add(text.substring(i, end));
                places.add(i);
            }
            i = end;
        }
        tokens.add(text.length() > most ? "too many" : "");
        places.add(Math.min(text.length(), most));
    }

    private String next() {
        return tokens.get(Math.min(at, tokens.size() - 1));
    }

    /** True, if there is a FAULT: the first one is kept. */
    private boolean wrong(boolean is, int kind, int token) {
        if (is && fault == 0) {
            fault = kind;
            place = places.get(Math.min(token, places.size() - 1));
        }
        return is;
    }

    private static boolean isName(String token) {
        return token.matches("[a-z]{1,7}") && !KEPT.contains(token);
    }

    /** LINES read, or -1 less the place of the FAULT. */
    private int read(String text, int most, String[] table, int mostLines) {
        cut(text, most);
        fault = 0;
        int lines = 0;
        while (!next().isEmpty()) {
            if (!readLine(table, lines >= mostLines)) {
                return -1 - place;
            }
            lines++;
        }
        return lines;
    }

    private boolean readLine(String[] table, boolean tooMany) {
        int begin = at;
        if (table == null) {
            String[] roll = {"h", "has|not", "s"};
            if (!readItem("h")) {
                return false;
            }
            if (wrong(tooMany, 4, begin)) {
                return false;
            }
            return readItem(roll[1]) && readItem(roll[2]) && readItem(";");
        }
        for (String row : table) {
            String[] items = row.split(" ");
            if (!items[0].equals(next())) {
                continue;
            }
            boolean full = items[0].equals("name") && surnames.size() == 10
                || items[0].equals("house") && houses.size() == 8;
            if (wrong(tooMany || full, 4, begin) || wrong(!onceOnly(items[0]), 3, begin)) {
                return false;
            }
            at++;
            for (int i = 1; i < items.length; i++) {
                if (!readItem(items[i])) {
                    return false;
                }
            }
            return readItem(";");
        }
        wrong(true, 1, begin);
        return false;
    }

    /** 'pews' and 'field' come once, and 'pews' ahead of all 'sits'. */
    private boolean onceOnly(String word) {
        if (word.equals("pews") || word.equals("field")) {
            return done.add(word) && !(word.equals("pews") && done.contains("sat"));
        }
        return true;
    }

    private boolean readItem(String item) {
        int token = at;
        String text = next();
        if (item.startsWith("?")) {
            String[] parts = item.substring(1).split(":");
            if (!List.of(parts[0].split("\\|")).contains(text)) {
                return true;
            }
            at++;
            return parts.length == 1 || readItem(parts[1]);
        }
        at++;
        if (item.equals(";") || item.contains("|")) {
            return !wrong(!List.of(item.split("\\|")).contains(text), 1, token);
        }
        if (item.contains("-") || item.equals("pew")) {
            int least = item.equals("pew") ? 0 : Integer.parseInt(item.split("-")[0]);
            int most = item.equals("pew") ? pews - 1 : Integer.parseInt(item.split("-")[1]);
            if (wrong(!text.matches("[0-9]{1,2}"), 1, token)) {
                return false;
            }
            int number = Integer.parseInt(text);
            if (item.equals("1-4")) {
                pews = number;
            }
            return !wrong(number < least || number > most, 2, token);
        }
        return !wrong(!isName(text), 1, token) && !wrong(!isKnown(item, text), 3, token);
    }

    private boolean isKnown(String item, String text) {
        String ahead = first;
        first = text;
        switch (item) {
            case "S": return !houses.contains(text) && !surnames.contains(text) && surnames.add(text);
            case "H": return !houses.contains(text) && !surnames.contains(text) && houses.add(text);
            case "h": return houses.contains(text);
            case "s": return surnames.contains(text);
            case "free": return surnames.contains(text) && done.add("held " + text);
            case "two": return surnames.contains(text) && done.add("wants " + ahead + " " + text);
            case "other": return surnames.contains(text) && !text.equals(ahead) && done.add("feud " + ahead + " " + text)
                && done.add("feud " + text + " " + ahead);
            default:
                done.add("sat");
                return houses.contains(text) && done.add("sits " + text);
        }
    }

    private void forgetAll() {
        surnames.clear();
        houses.clear();
        done.clear();
        pews = 1;
    }

    // ==== Texts that are nearly right

    private String any(String... words) {
        return words[random.nextInt(words.length)];
    }

    private String surname() {
        return any("a", "b", "c", "d", "e", "abcdefg");
    }

    private String house() {
        return any("m", "n", "o", "p");
    }

    private String islandLine() {
        switch (random.nextInt(9)) {
            case 0: case 1: return "name " + any("a", "b", "c", "d", "e", "f", "g", "i", "j", "k", "l", "abcdefg") + " "
                + random.nextInt(105) + any("", "", " cursed", " pawned");
            case 2: return "house " + any("m", "n", "o", "p", "q", "r", "s", "t", "u") + any("", " holds " + surname());
            case 3: return "wants " + house() + " " + surname() + " " + random.nextInt(105);
            case 4: return "feud " + surname() + " " + surname();
            case 5: return random.nextInt(3) > 0 ? "feud " + surname() + " " + surname()
                : "pews " + random.nextInt(6) + " " + random.nextInt(10);
            case 6: return "sits " + house() + " " + random.nextInt(3);
            case 7: return random.nextInt(3) > 0 ? "sits " + house() + " 0" : "field " + random.nextInt(110);
            default: return "name " + any("v", "w", "x", "y", "z", "vv", "ww") + " 7";
        }
    }

    private String bookLine() {
        return any("swap " + house() + " " + house(), "give " + house() + " " + house(), "drop " + house(),
            "take " + house() + " " + surname(), "sits " + house() + " " + random.nextInt(3), "trade", "trade");
    }

    private String rollLine() {
        return house() + any(" has ", " not ") + surname();
    }

    /** Now and then a scrap is put in, or taken out, or the text goes on and on. */
    private String spoilt(StringBuilder text) {
        int way = random.nextInt(8);
        int where = random.nextInt(text.length() + 1);
        if (way == 0) {
            text.insert(where, any(WORDS));
        } else if (way == 1) {
            text.insert(where, " " + any(WORDS) + " ");
        } else if (way == 2) {
            text.setLength(where);
        } else if (way == 3 && where < text.length()) {
            text.deleteCharAt(where);
        } else if (way == 4) {
            text.insert(where, Check.many(any(" ", "\n"), random.nextInt(1 + Math.max(1, 940 - text.length()))));
        }
        if (text.length() > 940) {
            text.setLength(940);
        }
        return text.toString();
    }

    private void oneIsland() {
        StringBuilder text = new StringBuilder();
        if (random.nextBoolean()) {
            text.append("name a 1;name b 2;house m holds b;name c 3;house n;house o;");
        }
        int lines = random.nextInt(random.nextBoolean() ? 6 : 100);
        for (int i = 0; i < lines; i++) {
            // Mostly LINES that are right so far, so that the FAULT comes late.
            String line = islandLine() + any(";", "; ", " ;", "\n;\n");
            forgetAll();
            if (random.nextInt(20) == 0 || read(text + line, 900, ISLAND, 1000) >= 0) {
                text.append(line);
            }
        }
        String all = spoilt(text);
        forgetAll();
        int due = read(all, 900, ISLAND, 1000);
        NameHat hat = new NameHat();
        Check.tell(hat, all);
        check.due("island() of '" + all + "'", hat.island(), due);
        check.due("fault() of '" + all + "'", hat.fault(), fault);
    }

    private void oneBook(boolean book) {
        String island = "name a 1;name b 2;name c 3;name abcdefg 4;house m;house n holds b;house o;pews 2 2;";
        NameHat hat = check.islandOf(island);
        forgetAll();
        read(island, 900, ISLAND, 1000);
        StringBuilder text = new StringBuilder();
        int lines = random.nextInt(random.nextBoolean() ? 6 : 40);
        for (int i = 0; i < lines; i++) {
            String line = (book ? bookLine() : rollLine()) + any(";", ";", "; ", "\n;");
            if (random.nextInt(40) == 0 || read(line, 400, book ? BOOK : null, 30) >= 0) {
                text.append(line);
            }
        }
        String all = spoilt(text);
        int due = read(all, 400, book ? BOOK : null, 30);
        Check.tell(hat, all);
        check.due((book ? "book() of '" : "roll() of '") + all + "'", book ? hat.book() : hat.roll(), due);
        check.due("fault() of '" + all + "'", hat.fault(), fault);
        check.due("LINES", hat.count(book ? 8 : 6), Math.max(0, due));
    }
}
