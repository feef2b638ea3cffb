/**
 * The edges of the texts (section 'Terms', promises 4, 15, 27): for each sentence that names one, the last that
 * is taken and the first that is refused. The sentence stands above its tests.
 */
public final class EdgeTextTest {
    private static final String[] KEPT = {"name", "cursed", "pawned", "house", "holds", "wants", "feud", "pews", "sits",
        "field", "has", "not", "swap", "give", "drop", "take", "trade"};
    private static final String TWO = "name p 1;name q 2;house a holds p;house b;";

    private final Check check = new Check();

    public static void main(String[] args) {
        EdgeTextTest test = new EdgeTextTest();
        test.everyByte();
        test.words();
        test.numbersOfDigits();
        test.blanks();
        test.nothingAtAll();
        test.mostBytesOfAnIsland();
        test.mostBytesOfTheOthers();
        test.manyLines();
        test.linesOfABook();
        test.linesOfARoll();
        test.mostSurnames();
        test.mostHouses();
        test.ranges();
        test.pewsAndSits();
        test.toldOnce();
        test.keptWords();
        test.firstAlongTheText();
        test.check.end("EdgeTextTest");
    }

    /** A new object each time, so that no text leans on one ahead of it. */
    private void island(String text, int answer, int fault) {
        check.island(new NameHat(), text, answer, fault);
    }

    private void book(String text, int answer, int fault) {
        check.book(check.islandOf(TWO + "pews 2 8;"), text, answer, fault);
    }

    private void roll(String text, int answer, int fault) {
        check.roll(check.islandOf(TWO), text, answer, fault);
    }

    // ==== TOKENS

    /** "TOKENS of all texts, with blanks (32, 10) between them or not". */
    private void everyByte() {
        for (int sign = 0; sign < 256; sign++) {
            boolean blank = sign == 32 || sign == 10;
            boolean goesOn = sign >= 'a' && sign <= 'z' || sign >= '0' && sign <= '9';
            char c = (char) sign;
            String told = "byte " + sign + ": ";
            NameHat hat = new NameHat();
            Check.tell(hat, "" + c);
            check.due(told + "alone", hat.island(), blank ? 0 : -1);
            check.due(told + "alone, fault()", hat.fault(), blank ? 0 : 1);
            Check.tell(hat, "name p" + c + "1;");
            check.due(told + "between two", hat.island(), blank ? 1 : goesOn ? -6 : -7);
            check.due(told + "between two, fault()", hat.fault(), blank ? 0 : 1);
            Check.tell(hat, "name q 1" + c + ";");
            // A digit more makes another NUMBER of it.
            check.due(told + "behind a NUMBER", hat.island(),
                blank || sign >= '0' && sign <= '9' ? 1 : sign == ';' ? -10 : goesOn ? -8 : -9);
            Check.tell(hat, "name p 1;" + c + "name q 2;");
            check.due(told + "between two LINES", hat.island(), blank ? 2 : -10);
        }
    }

    /** "WORDS: small letters, 1 to 7". */
    private void words() {
        for (int letters = 1; letters <= 300; letters = letters < 12 ? letters + 1 : letters * 2) {
            String word = Check.many("x", letters - 1) + "y";
            boolean fits = letters <= 7;
            island("name " + word + " 1;", fits ? 1 : -6, fits ? 0 : 1);
            island("house " + word + ";", fits ? 1 : -7, fits ? 0 : 1);
            island("name p 1;house a holds " + word + ";", -24, fits ? 3 : 1);
            island("wants " + word + " p 1;", -7, fits ? 3 : 1);
            island("name p 1;feud p " + word + ";", -17, fits ? 3 : 1);
            island("sits " + word + " 0;", -6, fits ? 3 : 1);
            island(word + " p 1;", -1, 1);
            book("drop " + word + ";", -6, fits ? 3 : 1);
            book("take b " + word + ";", -8, fits ? 3 : 1);
            roll(word + " has p;", -1, fits ? 3 : 1);
            roll("a not " + word + ";", -7, fits ? 3 : 1);
        }
        // NAMES that are alike but for one letter are not alike.
        NameHat hat = check.islandOf("name zzzzzzz 1;name zzzzzz 2;name azzzzzz 3;name zzzzzza 4;name z 5;house zz;"
            + "wants zz azzzzzz 9;wants zz zzzzzza 8;");
        check.due("azzzzzz", hat.value(0, 2), 9);
        check.due("zzzzzza", hat.value(0, 3), 8);
        check.due("zzzzzzz", hat.value(0, 0), 1);
    }

    /** "NUMBERS: 1 to 2 digits"; one of more digits is no TOKEN, also where it would wrap around to a fitting one. */
    private void numbersOfDigits() {
        String[] good = {"0", "9", "00", "01", "09", "10", "98", "99"};
        int[] due = {0, 9, 0, 1, 9, 10, 98, 99};
        for (int i = 0; i < good.length; i++) {
            NameHat hat = check.islandOf("name p " + good[i] + ";house a;wants a p " + good[i] + ";field " + good[i] + ";");
            check.due("WORTH " + good[i], hat.surname(0, 0), due[i]);
            check.due("N " + good[i], hat.value(0, 0), due[i]);
            check.due("field " + good[i], hat.count(4), due[i]);
        }
        String[] bad = {"000", "001", "099", "100", "999", "0000000001", "4294967297", "18446744073709551617", "1a", "a1",
            "9z9"};
        for (String one : bad) {
            island("name p " + one + ";", -8, 1);
            island("name p 1;house a;wants a p " + one + ";", -28, 1);
            island("pews " + one + " 1;", -6, 1);
            island("pews 1 " + one + ";", -8, 1);
            island("house a;sits a " + one + ";", -16, 1);
            island("field " + one + ";", -7, 1);
            book("sits a " + one + ";", -8, 1);
        }
    }

    /** "with blanks between them or not"; "A WORD, NUMBER goes on as long as small letters and digits do". */
    private void blanks() {
        island("name p 1;name q 2 cursed;house a holds p;pews 2 3;", 4, 0);
        island("\n\nname\np\n1\n;\n name  q \n\n 2\ncursed ;house\na holds\n\np;\npews\n2\n3 ;\n", 4, 0);
        island("name p 1cursed;", -8, 1);
        island("name p 1;house a;wants a p1;", -26, 1);
        island("pews 23;", -6, 2);
        island("pews 2 3pews 1 1;", -8, 1);
        island("field5;", -1, 1);
        island("namep 1;", -1, 1);
        book("trade;trade ; trade\n;", 3, 0);
        book("tradetrade;", -1, 1);
        roll("a has p;b\nnot\nq ; ", 2, 0);
        roll("ahas p;", -1, 3);
        roll("a hasp;", -3, 1);
    }

    /** "{ LINE ; }": no LINES at all are a text, too. */
    private void nothingAtAll() {
        String[] empty = {"", " ", "\n", " \n \n  "};
        for (String text : empty) {
            NameHat hat = check.islandOf(TWO + "pews 3 4;field 5;");
            check.book(hat, "trade;drop a;", 2, 0);
            check.roll(hat, "a has p;", 1, 0);
            check.book(hat, text, 0, 0);
            check.due("no LINES of a BOOK", hat.count(8), 0);
            check.due("go(1) of none", hat.go(1), NameHat.NONE);
            check.due("LINES done of none", hat.went(1), 0);
            check.roll(hat, text, 0, 0);
            check.due("no LINES of a ROLL", hat.count(6), 0);
            check.due("all DEALINGS fit", hat.dealings(), 2);
            check.island(hat, text, 0, 0);
            for (int what = 0; what < 9; what++) {
                check.due("nothing: count(" + what + ")", hat.count(what), what == 2 ? 1 : what == 3 ? 8 : 0);
            }
        }
    }

    // ==== The most bytes

    /** "a text of at most 900 bytes"; "the most bytes told, if there are more and no FAULT is ahead". */
    private void mostBytesOfAnIsland() {
        island(Check.many(" ", 900), 0, 0);
        island(Check.many("\n", 901), -901, 1);
        island(Check.many(" ", 940), -901, 1);
        island(Check.many(" ", 891) + "name p 1;", 1, 0);
        island(Check.many(" ", 892) + "name p 1;", -901, 1);
        island(Check.many(" ", 891) + "name p 1;?", -901, 1);
        island(Check.many(" ", 891) + "name p 1;;", -901, 1);
        island(Check.many(" ", 896) + "name", -901, 1);
        // The FAULT ahead of the most bytes is told, not their number.
        island("?" + Check.many(" ", 939), -1, 1);
        island("pews 5 1;" + Check.many(" ", 931), -6, 2);
        island(Check.many(" ", 899) + ";" + Check.many(" ", 40), -900, 1);
        island(Check.many(" ", 900) + ";" + Check.many(" ", 39), -901, 1);
        // "TOKENS that begin ahead of it are read whole": the first sign of each is byte 899, or 900.
        acrossTheMost("pews", "45 1;", 900, 2);
        acrossTheMost("pews", "4 1;", 901, 1);
        acrossTheMost("pews", "100;", 900, 1);
        acrossTheMost("name p", "99;", 901, 1);
        acrossTheMost("name p", "999;", 900, 1);
        acrossTheMost("name", "abcdefg 1;", 901, 1);
        acrossTheMost("name", "abcdefgh 1;", 900, 1);
        acrossTheMost("name", "trade 1;", 900, 1);
        acrossTheMost("name", "trad 1;", 901, 1);
        acrossTheMost("name p 1;house a holds", "pp;", 900, 3);
        acrossTheMost("name p 1;house a holds", "p;", 901, 1);
        acrossTheMost("field 1;", "field 2;", 900, 3);
        acrossTheMost("", "names p 1;", 900, 1);
        acrossTheMost("", "name p 1;", 901, 1);
    }

    /** The TOKEN begins at the last byte of the most: its own FAULT is told, if it has one; one byte later none is. */
    private void acrossTheMost(String ahead, String token, int place, int fault) {
        String blanks = Check.many(" ", 899 - ahead.length());
        island(ahead + blanks + token, -place, fault);
        island(ahead + blanks + " " + token, -901, 1);
    }

    /** "a text of at most 400 bytes", of a BOOK and of a ROLL. */
    private void mostBytesOfTheOthers() {
        book(Check.many(" ", 400), 0, 0);
        book(Check.many(" ", 401), -401, 1);
        book(Check.many("\n", 940), -401, 1);
        book(Check.many(" ", 394) + "trade;", 1, 0);
        book(Check.many(" ", 395) + "trade;", -401, 1);
        book("fly;" + Check.many(" ", 936), -1, 1);
        book("sits a" + Check.many(" ", 393) + "12;", -400, 2);
        book("sits a" + Check.many(" ", 393) + "1;", -401, 1);
        book("sits a" + Check.many(" ", 394) + "12;", -401, 1);
        book("drop" + Check.many(" ", 395) + "aa;", -400, 3);
        book("drop" + Check.many(" ", 396) + "aa;", -401, 1);
        book(Check.many(" ", 399) + "trades;", -400, 1);
        book(Check.many(" ", 399) + "trade;", -401, 1);
        roll(Check.many(" ", 400), 0, 0);
        roll(Check.many(" ", 401), -401, 1);
        roll(Check.many("\n", 940), -401, 1);
        roll(Check.many(" ", 392) + "a has p;", 1, 0);
        roll(Check.many(" ", 393) + "a has p;", -401, 1);
        roll("p has p;" + Check.many(" ", 932), -1, 3);
        roll("a" + Check.many(" ", 398) + "hass p;", -400, 1);
        roll("a" + Check.many(" ", 398) + "has p;", -401, 1);
        roll("a not" + Check.many(" ", 394) + "pp;", -400, 3);
        roll("a not" + Check.many(" ", 395) + "pp;", -401, 1);
        roll(Check.many(" ", 399) + "ab has p;", -400, 3);
        roll(Check.many(" ", 400) + "ab has p;", -401, 1);
    }

    // ==== How many LINES

    /** An ISLAND has as many LINES as its bytes hold: only a BOOK and a ROLL have 30 at most. */
    private void manyLines() {
        StringBuilder text = new StringBuilder();
        for (char x = 'a'; x < 'k'; x++) {
            text.append("name ").append(x).append(" 1;");
        }
        for (char x = 'a'; x < 'k'; x++) {
            for (char y = 'a'; y < x; y++) {
                text.append("feud ").append(x).append(' ').append(y).append(';');
            }
        }
        for (char h = 'm'; h < 'u'; h++) {
            text.append("house ").append(h).append(';');
        }
        for (char h = 'm'; h < 'u'; h++) {
            text.append("sits ").append(h).append(" 0;");
        }
        for (char h = 'm'; h < 'u'; h++) {
            text.append("wants ").append(h).append(" j 99;");
        }
        NameHat hat = new NameHat();
        check.island(hat, text.toString(), 10 + 45 + 8 + 8 + 8, 0);
        for (int x = 0; x < 10; x++) {
            check.due("all feud", hat.surname(x, 3), 1023 - (1 << x));
        }
        for (int h = 0; h < 8; h++) {
            check.due("wants the last", hat.value(h, 9), 99);
            check.due("wants no other", hat.value(h, 8), 1);
        }
        check.island(hat, text + "feud j a;", -1 - text.length() - 7, 3);
    }

    /** "30 LINES at most (FAULTS 1, 2 (PEW), 3, 4: at its first WORD)", of a BOOK. */
    private void linesOfABook() {
        String[] lines = {"swap a b;", "give a b;", "drop a;", "take a p;", "sits a 1;", "trade;"};
        for (String line : lines) {
            book(Check.many(line, 29), 29, 0);
            book(Check.many(line, 30), 30, 0);
            book(Check.many(line, 31), -1 - 30 * line.length(), 4);
            book(Check.many(line, 30) + " \n" + line, -3 - 30 * line.length(), 4);
            book(Check.many(line, 30) + " ", 30, 0);
            book(Check.many(line, 30) + ";", -1 - 30 * line.length(), 1);
            book(Check.many("trade;", 30) + line, -181, 4);
            // Whatever the LINE says then: the FAULT at its first WORD is ahead.
            book(Check.many("trade;", 30) + line.substring(0, line.length() - 1) + " z;", -181, 4);
        }
        book(Check.many("trade;", 30) + "sits a 9;", -181, 4);
        book(Check.many("trade;", 30) + "drop z;", -181, 4);
        book(Check.many("trade;", 30) + "has;", -181, 1);
        book(Check.many("trade;", 29) + "drop z;", -180, 3);
        book(Check.many("trade;", 29) + "sits a 2;", -182, 2);
    }

    /** "30 LINES at most (FAULTS 1, 3, 4)", of a ROLL. */
    private void linesOfARoll() {
        String[] lines = {"a has p;", "a not p;", "b not q;"};
        for (String line : lines) {
            roll(Check.many(line, 29), 29, 0);
            roll(Check.many(line, 30), 30, 0);
            roll(Check.many(line, 31), -241, 4);
            roll(Check.many(line, 30) + "\n\n" + line, -243, 4);
            roll(Check.many(line, 30) + "\n\n", 30, 0);
        }
        roll(Check.many("a has p;", 30) + "b has z;", -241, 4);
        roll(Check.many("a has p;", 30) + "p has p;", -241, 3);
        roll(Check.many("a has p;", 30) + "5 has p;", -241, 1);
        roll(Check.many("a has p;", 29) + "b has z;", -239, 3);
    }

    // ==== How many NAMES

    private static String names(int many) {
        StringBuilder text = new StringBuilder();
        for (int x = 0; x < many; x++) {
            text.append("name ").append((char) ('a' + x)).append(' ').append(x).append(';');
        }
        return text.toString();
    }

    private static String houses(int many) {
        StringBuilder text = new StringBuilder();
        for (int h = 0; h < many; h++) {
            text.append("house ").append((char) ('m' + h)).append(';');
        }
        return text.toString();
    }

    /** "10 SURNAMES ... at most, numbered from 0"; "4 an 11th SURNAME (at the LINE's first WORD)". */
    private void mostSurnames() {
        NameHat hat = new NameHat();
        check.island(hat, names(9), 9, 0);
        check.due("nine", hat.count(0), 9);
        check.island(hat, names(10), 10, 0);
        check.due("ten", hat.count(0), 10);
        for (int x = 0; x < 10; x++) {
            check.due("numbered as they rise", hat.surname(x, 0), x);
        }
        check.island(hat, names(11), -91, 4);
        check.due("ten stay", hat.count(0), 10);
        check.island(hat, names(10) + houses(8) + "\n name z 1;", -1 - 90 - 64 - 2, 4);
        check.island(hat, names(10) + "name 5;", -91, 4);
        check.island(hat, names(10) + "name house 1;", -91, 4);
        check.island(hat, names(10) + "name", -91, 4);
        check.island(hat, names(10) + "names z 1;", -91, 1);
        check.island(hat, names(9) + "name a 1;", -87, 3);
    }

    /** "8 HOUSES at most, numbered from 0"; "4 ... a ninth HOUSE (at the LINE's first WORD)". */
    private void mostHouses() {
        NameHat hat = new NameHat();
        check.island(hat, houses(7), 7, 0);
        check.due("seven", hat.count(1), 7);
        check.island(hat, houses(8), 8, 0);
        check.due("eight", hat.count(1), 8);
        check.island(hat, houses(9), -65, 4);
        check.due("eight stay", hat.count(1), 8);
        check.island(hat, houses(8) + names(10) + " house z;", -1 - 64 - 90 - 1, 4);
        check.island(hat, houses(8) + "house m;", -65, 4);
        check.island(hat, houses(8) + "house 5;", -65, 4);
        check.island(hat, houses(8) + "house", -65, 4);
        check.island(hat, houses(7) + "house m;", -63, 3);
        check.island(hat, "name y 7;" + houses(7) + "house z holds y;", 9, 0);
        check.due("the last one is number 7", hat.surname(0, 2), 7);
    }

    // ==== NUMBERS as told

    /** "WORTH (0 to 99)", "N (0 to 99)", "'pews' N SEATS (1 to 4; 1 to 8; once; 1 and 8 without)", "'field' N (0 to 99)". */
    private void ranges() {
        for (int n = 0; n < 100; n++) {
            NameHat hat = new NameHat();
            check.island(hat, "name p " + n + ";name q " + n + " cursed;name r 50;house a;wants a r " + n + ";field "
                + n + ";", 6, 0);
            check.due("WORTH " + n, hat.value(0, 0), n);
            check.due("cursed, as much below 0 as 'field' above", hat.value(0, 1), 0);
            check.due("N " + n, hat.value(0, 2), n);
            boolean pews = n >= 1 && n <= 4;
            check.island(hat, "pews " + n + " 3;", pews ? 1 : -6, pews ? 0 : 2);
            check.due("PEWS of " + n, hat.count(2), pews ? n : 1);
            boolean seats = n >= 1 && n <= 8;
            check.island(hat, "pews 3 " + n + ";", seats ? 1 : -8, seats ? 0 : 2);
            check.due("SEATS of " + n, hat.count(3), seats ? n : pews ? 3 : 8);
        }
        NameHat none = check.islandOf("name p 5 cursed;house a;");
        check.due("PEWS without", none.count(2), 1);
        check.due("SEATS without", none.count(3), 8);
        check.due("'field' without", none.count(4), 0);
        check.due("cursed without 'field'", none.value(0, 0), -5);
    }

    /** "'sits' HOUSE PEW (0 to pews less 1; each once; PEW 0 without; behind pews)", and "2 (PEW)" of a BOOK. */
    private void pewsAndSits() {
        for (int pews = 1; pews <= 4; pews++) {
            for (int pew = 0; pew <= 9; pew++) {
                NameHat hat = new NameHat();
                boolean is = pew < pews;
                check.island(hat, "pews " + pews + " 8;house a;sits a " + pew + ";", is ? 3 : -25, is ? 0 : 2);
                hat = check.islandOf("pews " + pews + " 8;house a;");
                check.due("PEW 0 without", hat.house(0, 1), 0);
                check.book(hat, "sits a " + pew + ";", is ? 1 : -8, is ? 0 : 2);
            }
        }
        island("house a;sits a 0;", 2, 0);
        island("house a;sits a 1;", -16, 2);
        book("sits a 0;sits b 1;", 2, 0);
        // No SEATS are counted here: more may sit in one PEW than it has.
        island("pews 2 1;house a;house b;house c;sits b 1;sits c 1;", 6, 0);
        island("pews 1 1;house a;house b;", 3, 0);
        // "pews behind a 'sits' (at its WORD)", "pews, field told twice".
        island("house a;sits a 0;pews 1 8;", -18, 3);
        island("house a;pews 1 8;sits a 0;", 3, 0);
        island("pews 1 8;pews 1 8;", -10, 3);
        island("pews 1 8;house a;pews", -18, 3);
        island("field 0;field 0;", -9, 3);
        island("field 1;field", -9, 3);
    }

    // ==== NAMES

    /** "told once"; "3 a NAME told twice, not told, or of another sort, a SURNAME that is held, one twice, ...". */
    private void toldOnce() {
        island("name p 1;name q 1;house p;", -25, 3);
        island("house a;house b;name b 1;", -22, 3);
        // Told later is not told yet.
        island("house a holds p;name p 1;", -15, 3);
        island("feud p q;name p 1;name q 1;", -6, 3);
        island("name p 1;feud p q;name q 1;", -17, 3);
        island("name p 1;wants a p 1;house a;", -16, 3);
        island("house a;wants a p 1;name p 1;", -17, 3);
        island("sits a 0;house a;", -6, 3);
        // Of another sort.
        island(TWO + "feud a q;", -48, 3);
        island(TWO + "feud q a;", -50, 3);
        island(TWO + "wants p a 1;", -49, 3);
        island(TWO + "wants a b 1;", -51, 3);
        island(TWO + "sits p 0;", -48, 3);
        island(TWO + "house c holds a;", -57, 3);
        // "that nobody holds yet"; "unlike"; "each two once", "(at the latter, of 'feud' in either order)".
        island(TWO + "house c holds p;", -57, 3);
        island(TWO + "house c holds q;", 5, 0);
        island(TWO + "feud p p;", -50, 3);
        island(TWO + "feud p q;feud p q;", -59, 3);
        island(TWO + "feud p q;feud q p;", -59, 3);
        island(TWO + "name r 1;feud p q;feud p r;feud r q;", 8, 0);
        island(TWO + "wants a p 1;wants a q 1;wants b p 1;", 7, 0);
        island(TWO + "wants a p 1;wants b q 1;wants a p 1;", -75, 3);
        island(TWO + "sits a 0;sits b 0;sits a 0;", -66, 3);
        book("swap p a;", -6, 3);
        book("swap a q;", -8, 3);
        book("take a b;", -8, 3);
        book("take p q;", -6, 3);
        book("drop q;", -6, 3);
        book("sits q 0;", -6, 3);
        roll("a has b;", -7, 3);
        roll("q has q;", -1, 3);
    }

    /** "NAME: a WORD, none of those told here, in a ROLL or in a BOOK": such a WORD can't come where a NAME does. */
    private void keptWords() {
        for (String word : KEPT) {
            island("name " + word + " 1;", -6, 1);
            island("house " + word + ";", -7, 1);
            island(TWO + "house c holds " + word + ";", -57, 1);
            island(TWO + "wants " + word + " p 1;", -49, 1);
            island(TWO + "wants a " + word + " 1;", -51, 1);
            island(TWO + "feud " + word + " p;", -48, 1);
            island(TWO + "feud p " + word + ";", -50, 1);
            island(TWO + "sits " + word + " 0;", -48, 1);
            for (String line : new String[] {"swap ", "give ", "drop ", "take ", "sits "}) {
                book(line + word + ";", -6, 1);
            }
            book("swap a " + word + ";", -8, 1);
            book("give a " + word + ";", -8, 1);
            book("take b " + word + ";", -8, 1);
            roll(word + " has p;", -1, 1);
            roll("a has " + word + ";", -7, 1);
            roll("a not " + word + ";", -7, 1);
            boolean begins = word.equals("swap") || word.equals("give") || word.equals("drop") || word.equals("take")
                || word.equals("sits") || word.equals("trade");
            book(word, begins ? -1 - word.length() : -1, 1);
            boolean middle = word.equals("has") || word.equals("not");
            roll("a " + word + ";", middle ? -6 : -3, 1);
            // One letter more or less, and it is a NAME.
            island("name " + word.substring(1) + " 1;name x" + word + " 2;", 2, 0);
        }
    }

    // ==== Which FAULT

    /** "FAULTS, the first along the text, of one TOKEN the least". */
    private void firstAlongTheText() {
        island("name p 1;name p 1;pews 9 9;?", -15, 3);
        island("pews 9 9;name p 1;name p 1;?", -6, 2);
        island("? pews 9 9;", -1, 1);
        island("pews 5 9;", -6, 2);
        island("pews 4 9;", -8, 2);
        island("feud p p;", -6, 3);
        island("name p 1;feud p p q;", -17, 3);
        island("name p 1;name p 100;", -15, 3);
        island("house a;sits a 0;sits a 9;", -23, 3);
        island("house a;sits a 9;sits a 0;", -16, 2);
        island("pews 1 1;pews x;", -10, 3);
        // At the end: "how many bytes there are", blanks at the end with them.
        island("name p", -7, 1);
        island("name p  \n", -10, 1);
        island("name p 1 cursed", -16, 1);
        island("house a holds", -14, 1);
        book("swap a", -7, 1);
        book("swap a b ", -10, 1);
        book("trade", -6, 1);
        roll("a has p \n ", -11, 1);
        roll("a ", -3, 1);
    }
}
