import java.util.NoSuchElementException;

/** What all tests use: answers that are due, counted, and texts fed to the tape. */
final class Check {
    /** A call whose answer, or whose throwing, is looked at. */
    interface Call {
        long answer();
    }

    private int asked = 0;
    private int wrong = 0;

    void due(String what, long got, long want) {
        asked++;
        if (got != want) {
            wrong++;
            System.out.println("  " + what + " answered " + got + ", due is " + want);
        }
    }

    void due(String what, boolean got, boolean want) {
        due(what, got ? 1 : 0, want ? 1 : 0);
    }

    void isMissing(String what, Call call) {
        asked++;
        try {
            long got = call.answer();
            wrong++;
            System.out.println("  " + what + " answered " + got + ", due is NoSuchElementException");
        } catch (NoSuchElementException thrown) {
            if (thrown.getClass() != NoSuchElementException.class) {
                wrong++;
                System.out.println("  " + what + " threw " + thrown.getClass());
            }
        }
    }

    /** Reads an ISLAND that has no FAULT. */
    NameHat islandOf(String text) {
        NameHat hat = new NameHat();
        tell(hat, text);
        due("island() of " + text, hat.island() >= 0, true);
        return hat;
    }

    /** What island(), book() and roll() have alike. */
    private interface Reading {
        int read();
    }

    void island(NameHat hat, String text, int answer, int fault) {
        reads(hat, "island()", hat::island, text, answer, fault);
    }

    void book(NameHat hat, String text, int answer, int fault) {
        reads(hat, "book()", hat::book, text, answer, fault);
    }

    void roll(NameHat hat, String text, int answer, int fault) {
        reads(hat, "roll()", hat::roll, text, answer, fault);
    }

    private void reads(NameHat hat, String call, Reading reading, String text, int answer, int fault) {
        read(hat, call, reading, text, answer, fault);
        // A FAULT ahead of the end stays the first one, whatever comes behind it.
        if (-1 - answer >= 0 && -1 - answer < text.length() && text.length() < 380) {
            read(hat, call, reading, text + "?", answer, fault);
            read(hat, call, reading, text + ";?;", answer, fault);
        }
    }

    private void read(NameHat hat, String call, Reading reading, String text, int answer, int fault) {
        tell(hat, text);
        due(call + " of '" + text + "'", reading.read(), answer);
        due("fault() of '" + text + "'", hat.fault(), fault);
        due("count(7) behind " + call, hat.count(7), 0);
    }

    /** The text alone comes on the tape. */
    static void tell(NameHat hat, String text) {
        hat.end(0);
        char[] signs = text.toCharArray();
        for (int i = 0; i < signs.length; i += 20) {
            hat.feed(four(signs, i), four(signs, i + 4), four(signs, i + 8), four(signs, i + 12), four(signs, i + 16));
        }
        hat.end(signs.length);
    }

    private static int four(char[] signs, int from) {
        int number = 0;
        for (int i = from; i < from + 4; i++) {
            number = number << 8 | (i < signs.length ? signs[i] & 255 : 0);
        }
        return number;
    }

    static String many(String text, int times) {
        StringBuilder all = new StringBuilder();
        for (int i = 0; i < times; i++) {
            all.append(text);
        }
        return all.toString();
    }

    void end(String test) {
        System.out.println(test + ": " + asked + " asked, " + wrong + " wrong");
        if (wrong != 0 || asked == 0) {
            System.exit(1);
        }
    }
}
