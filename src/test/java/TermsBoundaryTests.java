import java.util.List;

/** A test for each sentence of the document's 'Terms', and of its promises 1 to 5. */
public final class TermsBoundaryTests extends Check {
    // 22 tokens: one or two of each sort that the texts below tell of.
    private static final String START = "thing t 1;inn i 1 1 1;guest g 1 1 1;guest h 1 1 1;";
    private static final int START_TOKENS = 22;

    private static final List<String> TELLS = List.of("thing", "inn", "gives", "guest", "twins", "post", "much", "owes",
            "shows", "fine", "seed");
    private static final List<String> VARS = List.of("night", "tariff", "units", "cheese", "degree", "honest", "which",
            "twice", "alike");
    private static final List<String> WORDS = List.of("thing", "inn", "gives", "guest", "twins", "post", "much", "owes",
            "shows", "fine", "seed", "if", "then", "else", "night", "tariff", "units", "cheese", "degree", "honest",
            "which", "twice", "alike");
    private static final List<String> SIGNS = List.of(";", "=", "+", "-", "*", "/", "<", "(", ")");
    private static final List<String> NO_TOKENS = List.of(".", ",", ">", "X", "12345", "abcdefghi", "\0", "\u007f", "\u00e9");

    /** Texts that go on as the document says: what may stand at each place, and what does. */
    private static final String[][] SHAPES = {
        {"TELL", "thing", "NAME", "tt", "INT", "1", ";", ";"},
        {"TELL", "inn", "NAME", "ii", "INT", "1", "INT", "1", "INT", "1", ";", ";"},
        {"TELL", "gives", "NAME", "i", "NAME", "t", "INT", "1", ";", ";"},
        {"TELL", "guest", "NAME", "gg", "INT", "1", "INT", "1", "INT", "1", ";", ";"},
        {"TELL", "twins", "NAME", "g", "NAME", "h", ";", ";"},
        {"TELL", "post", "NAME", "p", "NAME ;", "i", "NAME ;", ";"},
        {"TELL", "post", "NAME", "p", "NAME ;", ";"},
        {"TELL", "much", "=", "=", "if UNIT", "1", "SIGN ;", ";"},
        {"TELL", "owes", "=", "=", "if UNIT", "if", "UNIT", "1", "SIGN <", "<", "UNIT", "1", "SIGN then", "then",
            "UNIT", "1", "SIGN else", "else", "if UNIT", "2", "SIGN ;", ";"},
        {"TELL", "shows", "=", "=", "if UNIT", "night", "SIGN ;", "*", "UNIT", "(", "UNIT", "(", "UNIT", "7", "SIGN )", ")",
            "SIGN )", "-", "UNIT", "twice", "SIGN )", ")", "SIGN ;", "/", "UNIT", "2", "SIGN ;", ";"},
        {"TELL", "much", "=", "=", "if UNIT", "if", "UNIT", "(", "UNIT", "1", "SIGN )", ")", "SIGN <", "+", "UNIT", "1",
            "SIGN <", "<", "UNIT", "(", "UNIT", "1", "SIGN )", ")", "SIGN then", "then", "UNIT", "(", "UNIT", "1",
            "SIGN )", ")", "SIGN else", "else", "if UNIT", "if", "UNIT", "1", "SIGN <", "<", "UNIT", "1", "SIGN then",
            "then", "UNIT", "1", "SIGN else", "else", "if UNIT", "1", "SIGN ;", ";"},
        {"TELL", "fine", "INT", "1", ";", ";"},
        {"TELL", "seed", "INT", "1", ";", ";"},
    };

    public static void main(String[] args) {
        textOf2000Bytes();
        longestTokens();
        namesOfLetters();
        namesOfEightLetters();
        namesThatAreWords();
        intsOfFourDigits();
        signs();
        noTokens();
        textOfNothing();
        shapes();
        numbersOfThings();
        numbersOfInns();
        numbersOfGuests();
        posts();
        numberedAsTheyStand();
        weights();
        twins();
        lawsNotTold();
        fineAndSeed();
        firstByPlace();
        syntaxAtTheEnd();
        leastOfOnePlace();
        room401();
        roomOfSorts();
        roomOfIfs();
        roomOfBrackets();
        laterFaultsOnlyWithoutThese();
        twiceTold();
        twiceTwins();
        twiceInns();
        names();
        namesTwice();
        wrongAtTheInt();
        faultChangesNothing();
        goodTextInPlace();
        newObject();
        feed();
        feedTooMuch();
        back();
        backTooMuch();
        read();
        place();
        end();
    }

    private static boolean blank(int b) { return b == 9 || b == 10 || b == 13 || b == 32; }
    private static boolean digit(int b) { return b >= 48 && b <= 57; }
    private static boolean letter(int b) { return b >= 97 && b <= 122; }

    // ---- tokens

    private static void textOf2000Bytes() {
        says("A TEXT has 2,000 bytes at most.");
        good(" ".repeat(2000));
        good(" ".repeat(1993) + "seed 7;");
        fault(" ".repeat(1999) + "x", 1, 1999);
        fault(" ".repeat(1996) + "seed", 1, 2000);
        fault(" ".repeat(1993) + "fine 0;", 5, 1998);
    }

    private static void longestTokens() {
        says("TOKENS, the longest that can be, with blanks (9, 10, 13, 32) between or not:");
        for (String blank : new String[] {" ", "\t", "\n", "\r", "\t\n\r ", "      "}) {
            good(blank + "thing" + blank + "a" + blank + "1" + blank + ";" + blank);
        }
        good("thing a1;inn b1 1 1;guest c0 0 0;gives b a1;much=if night<1then 2else 3;");
        // a word and a letter more is a name, and no word and a name
        good("thing ifa 1;thing inns 1;thing seeds 1;thing ahonest 1;");
        fault("thinga 1;", 1, 0);
        fault("seed12;seed1 2;", 1, 13);
        fault("thing a b 1;", 1, 8);
        fault("inn a 1 11;", 1, 10);
        // every byte between a word and a number
        for (int b = 0; b < 256; b++) {
            String text = "fine" + (char) b + "7;";
            if (blank(b) || b == '0') good(text);
            else if (digit(b)) fault(text, 5, 4);
            else fault(text, 1, letter(b) ? 0 : 4);
        }
    }

    private static void namesOfLetters() {
        says("NAMES (letters a .. z,");
        for (int b = 0; b < 256; b++) {
            String first = "thing " + (char) b + " 7;";
            if (letter(b)) good(first);
            else fault(first, 1, blank(b) ? 8 : 6);
            String second = "thing a" + (char) b + "a 7;";
            if (letter(b)) good(second);
            else fault(second, 1, blank(b) || digit(b) ? 8 : 7);
        }
    }

    private static void namesOfEightLetters() {
        says("8 at most,");
        for (int n = 1; n <= 8; n++) good("thing " + "a".repeat(n) + " 1;");
        for (int n : new int[] {9, 10, 16, 17, 1000}) fault("thing " + "z".repeat(n) + " 1;", 1, 6);
        // all eight letters count
        good("thing abcdefgh 1;thing abcdefgi 1;thing bbcdefgh 1;thing abcdefg 1;thing zzzzzzzz 1;thing zzzzzzz 1;");
        fault("thing abcdefgh 1;inn abcdefgh 1 1 1;", 3, 21);
        // nor is a word with which a longer one begins a word
        fault("thingaaaa a 1;", 1, 0);
        fault("much=nightaaaa;", 1, 5);
    }

    private static void namesThatAreWords() {
        says("none of the words in quotes),");
        for (String word : WORDS) {
            fault("thing " + word + " 1;", 1, 6);
            fault("inn " + word + " 1 1 1;", 1, 4);
            fault("guest " + word + " 1 1 1;", 1, 6);
            fault("post " + word + ";", 1, 5);
            good("thing " + word + "x 1;thing " + word.substring(0, word.length() - 1) + " 1;");
        }
    }

    private static void intsOfFourDigits() {
        says("INTS (1 to 4 digits),");
        good("seed 7;seed 77;seed 777;seed 7777;seed 0000;seed 0007;");
        due("seven", of("fine 0007;").count(12), 7);
        for (String n : new String[] {"00000", "12345", "00007", "9999999999", "4294967297"}) fault("seed " + n + ";", 1, 5);
        good("much=9999;owes=0000;");
        fault("much=10000;", 1, 5);
        for (int b = 0; b < 256; b++) {
            String text = "fine " + (char) b + ";";
            if (b == '0') fault(text, 5, 5);
            else if (digit(b)) good(text);
            else fault(text, 1, blank(b) ? 6 : 5);
        }
    }

    private static void signs() {
        says("SIGNS ; = + - * / < ( ) .");
        for (int b = 0; b < 256; b++) {
            String text = "much=7" + (char) b + "7;";
            if (digit(b) || b == '+' || b == '-' || b == '*' || b == '/') good(text);
            else fault(text, 1, blank(b) || b == ';' ? 7 : 6);
        }
        // signs need no blanks, and no two of them are one
        good("much=(((1))+((2)))*3;owes=if 1<2then 1else(2);");
        fault("much==1;", 1, 5);
        fault("much=1++1;", 1, 7);
        fault("much=if 1<<2 then 1 else 2;", 1, 10);
        fault("fine 1;;", 1, 7);
    }

    private static void noTokens() {
        says("A longer one, all else, is no TOKEN.");
        for (int b = 0; b < 256; b++) {
            if (blank(b)) good("" + (char) b);
            else fault("" + (char) b, 1, 0);
            if (blank(b)) good("fine 1;" + (char) b);
            else fault("fine 1;" + (char) b, 1, 7);
        }
        fault("abcdefghi", 1, 0);
        fault("fine 12345;", 1, 5);
    }

    // ---- shapes

    private static void textOfNothing() {
        says("text: {TELL}.");
        good("");
        good(" \t\r\n");
        good("fine 1;");
        good("fine 1;fine 2;".repeat(50));
        DreamDuty x = of("");
        for (int what = 0; what < 12; what++) due("count " + what, x.count(what), 0);
    }

    private static boolean fits(String kinds, String token) {
        for (String kind : kinds.split(" ")) {
            boolean fits = switch (kind) {
                case "TELL" -> TELLS.contains(token);
                case "NAME" -> token.equals("x");
                case "INT" -> token.equals("1");
                case "UNIT" -> token.equals("1") || token.equals("(") || VARS.contains(token);
                case "SIGN" -> "+-*/".contains(token);
                default -> kind.equals(token);
            };
            if (fits) return true;
        }
        return false;
    }

    private static void shapes() {
        says("TELL: 'thing' NAME INT ';' | 'inn' NAME INT INT INT ';' | 'gives' NAME NAME INT ';'"
                + " | 'guest' NAME INT INT INT ';' | 'twins' NAME NAME ';' | 'post' NAME {NAME} ';'"
                + " | ('much' | 'owes' | 'shows') LAW ';' | 'fine' INT ';' | 'seed' INT ';'."
                + " LAW: '=' {'if' E '<' E 'then' E 'else'} E. E: PART {('+' | '-') PART}. PART: UNIT {('*' | '/') UNIT}."
                + " UNIT: INT | VAR | '(' E ')'."
                + " VAR: 'night' | 'tariff' | 'units' | 'cheese' | 'degree' | 'honest' | 'which' | 'twice' | 'alike'.");
        for (String[] shape : SHAPES) {
            StringBuilder ahead = new StringBuilder(START);
            for (int i = 0; i < shape.length; i += 2) {
                for (String token : WORDS) next(ahead.toString(), shape[i], token);
                for (String token : SIGNS) next(ahead.toString(), shape[i], token);
                for (String token : NO_TOKENS) next(ahead.toString(), shape[i], token);
                for (String token : List.of("x", "1")) next(ahead.toString(), shape[i], token);
                ahead.append(shape[i + 1]).append(' ');
            }
            good(ahead.toString());
            for (String token : List.of("x", "1", ";", "(", ".")) next(ahead.toString(), "TELL", token);
        }
    }

    // A token with which the text goes on lets it be at fault at its end only, another one at once, whatever comes then.
    private static void next(String ahead, String kinds, String token) {
        String text = ahead + token;
        if (!fits(kinds, token)) {
            fault(text, 1, ahead.length());
            fault(text + " 1 ; x", 1, ahead.length());
        } else if (token.equals(";")) {
            good(text);
        } else {
            fault(text, 1, text.length());
            fault(text + "\n ", 1, text.length() + 2);
        }
    }

    // ---- numbers

    private static void range(String ahead, int least, int most, String behind) {
        String start = START + ahead;
        int place = start.length();
        good(start + least + behind);
        good(start + most + behind);
        good(start + "0".repeat(4 - ("" + most).length()) + most + behind);
        fault(start + (most + 1) + behind, 5, place);
        fault(start + 9999 + behind, 5, place);
        if (least > 0) fault(start + (least - 1) + behind, 5, place);
    }

    private static void most(int most, int what, String word, String behind) {
        for (int n = 0; n <= most; n++) due(n + " times " + word, of(times(n, word, behind)).count(what), n);
        String full = times(most, word, behind);
        fault(full + word + " q" + behind + ";", 2, full.length());
        fault(full + "fine 1;" + word, 2, full.length() + 7);
    }

    private static void numbersOfThings() {
        says("THINGS, 7 at most (a NAME, TARIFF 0 .. 99),");
        most(7, 0, "thing", " 1");
        range("thing q ", 0, 99, ";");
        DreamDuty x = of("thing a 0;thing b 99;guest g 1 1 1;");
        due("tariff 0", x.owes(0, 0, 1), 0);
        due("tariff 99", x.owes(0, 1, 1), 99);
    }

    private static void numbersOfInns() {
        says("INNS, 5 at most (a NAME, PRICE 0 .. 99, BEDS 1 .. 7, CHEESE 0 .. 9),");
        most(5, 1, "inn", " 1 1 1");
        range("inn q ", 0, 99, " 1 1;");
        range("inn q 1 ", 1, 7, " 1;");
        range("inn q 1 1 ", 0, 9, ";");
        DreamDuty x = of("inn a 0 1 0;inn b 99 7 9;thing t 1;guest g 1 1 1;owes=cheese;");
        due("beds", x.inn(0, 1), 1);
        due("beds", x.inn(1, 1), 7);
        due("cheese", x.mean(0, 0, false), 0);
        due("cheese", x.mean(0, 1, false), 9);
        x.lodge(0, 0);
        x.nights(1);
        due("price", x.count(6), 0);
        x.lodge(0, 1);
        x.nights(1);
        due("price", x.count(6), 99);
    }

    private static void numbersOfGuests() {
        says("GUESTS, 6 at most (a NAME, COINS 0 .. 999, HONEST 0 .. 100, DEGREE 0 .. 9),");
        most(6, 2, "guest", " 1 1 1");
        range("guest q ", 0, 999, " 1 1;");
        range("guest q 1 ", 0, 100, " 1;");
        range("guest q 1 1 ", 0, 9, ";");
        DreamDuty x = of("guest a 0 0 0;guest b 999 100 9;thing t 1;owes=honest*5+degree;");
        due("coins", x.guest(0, 0), 0);
        due("coins", x.guest(1, 0), 999);
        due("honest and degree", x.owes(0, 0, 0), 0);
        due("honest and degree", x.owes(1, 0, 0), 509);
    }

    private static void posts() {
        says("POSTS, 6 at most (a NAME, INNS that it watches),");
        most(6, 3, "post", "");
        good(times(5, "inn", " 1 1 1") + "post a ia ib ic id ie;post b;post c ie;");
    }

    private static void numberedAsTheyStand() {
        says("numbered each from 0 on as they stand.");
        DreamDuty x = of("guest z 5 1 1;thing c 0;post p;inn y 3 2 1;thing b 7;guest n 6 1 1;inn x 4 1 1;post q y;"
                + "thing a 9;guest m 7 1 1;gives y a 0;gives x b 5;post r x;");
        for (int guest = 0; guest < 3; guest++) due("coins " + guest, x.guest(guest, 0), 5 + guest);
        due("tariff 0", x.owes(0, 0, 1), 0);
        due("tariff 1", x.owes(0, 1, 1), 7);
        due("tariff 2", x.owes(0, 2, 1), 9);
        due("beds 0", x.inn(0, 1), 2);
        due("beds 1", x.inn(1, 1), 1);
        due("gives 0 2", x.gives(0, 2), 0);
        due("gives 1 1", x.gives(1, 1), 5);
        x.lodge(0, 0);
        due("post 1 watches inn 0", x.posts(1), 2);
        x.lodge(0, 1);
        due("post 2 watches inn 1", x.posts(1), 4);
    }

    private static void weights() {
        says("GIVES: with what WEIGHT 0 .. 9 an INN gives a THING (1; the last one).");
        range("gives i t ", 0, 9, ";");
        DreamDuty x = of("inn i 1 1 1;thing a 1;gives i a 0;gives i a 9;thing b 1;gives i b 9;gives i b 0;thing c 1;inn j 1 1 1;gives j c 4;");
        int[][] due = {{9, 0, 1}, {1, 1, 4}};
        for (int inn = 0; inn < 2; inn++) {
            for (int thing = 0; thing < 3; thing++) due("gives " + inn + " " + thing, x.gives(inn, thing), due[inn][thing]);
        }
        // as often as there is room
        due("the last", of("inn i 1 1 1;thing a 1;" + "gives i a 3;".repeat(60) + "gives i a 5;").gives(0, 0), 5);
    }

    private static void twins() {
        says("TWINS, 3 at most: two GUESTS.");
        String six = times(6, "guest", " 1 1 1");
        good(six + "twins ga gb;");
        String three = six + "twins gf ga;twins gb ge;twins gd gc;";
        good(three);
        fault(three + "twins ga gb;", 2, three.length());
        fault(three + "twins", 2, three.length());
    }

    private static void lawsNotTold() {
        says("LAWS: MUCH (1), OWES (tariff times units), SHOWS (50), if not told; the last one.");
        String world = "thing a 7;inn i 0 1 0;guest g 9 9 9;";
        int[][] due = {{1, 7, 50}, {3, 21, 50}, {1, 4, 50}, {1, 7, 5}};
        String[] laws = {"", "much=2;much=3;", "owes=5;owes=4;", "shows=6;shows=5;"};
        for (int i = 0; i < laws.length; i++) {
            DreamDuty x = of(laws[i] + world);
            x.lodge(0, 0);
            x.nights(1);
            due("units " + laws[i], x.guest(0, 3), due[i][0]);
            due("owes " + laws[i], x.guest(0, 4), due[i][1]);
            due("shows " + laws[i], x.shows(0), due[i][2]);
        }
        // none of a former one stays: it has more ifs
        due("the last", of(world + "owes=if 0<1 then 3 else if 0<1 then 4 else 5;owes=6;").owes(0, 0, 0), 6);
    }

    private static void fineAndSeed() {
        says("FINE 1 .. 9 (2), SEED 0 .. 9999 (0): the last one.");
        range("fine ", 1, 9, ";");
        due("fine not told", of("").count(12), 2);
        due("the last", of("fine 9;fine 1;").count(12), 1);
        due("the last", of("fine 1;fine 9;").count(12), 9);
        good("seed 0;seed 9999;seed 0009;");
        // 0, if not told: the lots are the ones of 0, not of 1
        String world = "thing a 1;thing b 1;inn i 0 6 0;" + times(6, "guest", " 0 0 0");
        for (String told : new String[] {"", "seed 0;", "seed 9999;seed 0;", "seed 9999;", "seed 0;seed 9999;", "seed 1;"}) {
            int seed = told.isEmpty() || told.endsWith(" 0;") ? 0 : told.equals("seed 1;") ? 1 : 9999;
            DreamDuty x = of(world + told);
            for (int guest = 0; guest < 6; guest++) x.lodge(guest, 0);
            for (int night = 0; night < 5; night++) {
                x.nights(1);
                for (int guest = 0; guest < 6; guest++) {
                    due("lot of " + told, x.guest(guest, 2), Oracle.lot(2, seed, 64 * night + guest));
                }
            }
        }
    }

    // ---- faults of syntax and of room

    private static void firstByPlace() {
        says("FAULTS of a text, the first by its place");
        fault("x;fine 1 1;", 1, 0);
        fault("fine 1 1;x;", 1, 7);
        String seven = times(7, "thing", " 1");
        fault(seven + "thing h 1 1;", 2, seven.length());
        fault(seven + "fine 1 1;thing h 1;", 1, seven.length() + 7);
        fault("much=(((((((1 1;", 2, 11);
        fault("much=1 1+(((((((1", 1, 7);
        // of the later ones likewise
        fault("fine 0;fine 10;", 5, 5);
        fault("fine 1;fine 10;fine 0;", 5, 12);
        fault("thing a 100;inn a 100 0 10;", 5, 8);
        fault("thing a 1;inn a 100 0 10;", 3, 14);
        fault("thing a 1;inn b 100 0 10;", 5, 16);
        fault("thing a 1;inn b 99 0 10;", 5, 19);
        fault("gives x y 10;fine 0;", 4, 6);
        fault("fine 0;gives x y 10;", 5, 5);
    }

    private static void syntaxAtTheEnd() {
        says("(a byte; the text's end: its length),");
        says("1 SYNTAX: a TOKEN, or what is none, with which no text goes on.");
        String[] begun = {"thing", "thing a", "thing a 1", "inn a 1 1", "gives a", "post", "post a", "post a b", "much", "much=",
            "much=1", "much=1+", "much=(", "much=(1", "much=if", "much=if 1", "much=if 1<", "much=if 1<1", "much=if 1<1 then",
            "much=if 1<1 then 1", "much=if 1<1 then 1 else", "much=if 1<1 then 1 else 1", "fine", "fine 1", "seed", "seed 1"};
        for (String text : begun) {
            fault(text, 1, text.length());
            fault("fine 1;" + text + "   \n", 1, text.length() + 11);
            fault(text + " .", 1, text.length() + 1);
        }
    }

    // A row of so many tokens, without a fault.
    private static String fill(int tokens) {
        StringBuilder s = new StringBuilder();
        int left = tokens;
        for (int k = 0; left % 3 != 0; k++) {
            s.append("thing z").append((char) ('a' + k)).append(" 1;");
            left -= 4;
        }
        return s.append("fine 1;".repeat(left / 3)).toString();
    }

    private static void leastOfOnePlace() {
        says("of one place the least:");
        for (String[] shape : SHAPES) {
            StringBuilder form = new StringBuilder();
            for (int k = 0; k < shape.length / 2; k++) {
                String ahead = START + fill(400 - START_TOKENS - k) + form;
                fault(ahead + ".", 1, ahead.length());
                fault(ahead + "abcdefghi", 1, ahead.length());
                if (!fits(shape[2 * k], "=")) fault(ahead + "=", 1, ahead.length());
                form.append(shape[2 * k + 1]).append(' ');
            }
        }
    }

    private static void room401() {
        says("2 ROOM: a 401st TOKEN;");
        for (String[] shape : SHAPES) {
            StringBuilder form = new StringBuilder();
            for (int k = 0; k < shape.length / 2; k++) {
                String ahead = START + fill(400 - START_TOKENS - k) + form;
                fault(ahead + shape[2 * k + 1], 2, ahead.length());
                fault(ahead + shape[2 * k + 1] + " . x 1", 2, ahead.length());
                // the 400th is not the one
                if (k == 0) good(ahead);
                else fault(ahead, 1, ahead.length());
                form.append(shape[2 * k + 1]).append(' ');
            }
            good(START + fill(400 - START_TOKENS - shape.length / 2) + form);
        }
        fault("post p " + "x ".repeat(399), 2, 7 + 2 * 398);
        fault("fine 1;".repeat(140), 2, 7 * 133 + 5);
        // a law of 400 tokens: it is worked out to its end
        StringBuilder law = new StringBuilder("0");
        for (int k = 0; k < 193; k++) law.append("+1");
        String world = "thing a 1;guest g 1 1 1;";
        due("a law of 390 tokens", of(world + "owes=" + law + ";").owes(0, 0, 0), 193);
        fault(world + "owes=" + law + ";fine", 2, world.length() + law.length() + 6);
    }

    private static void roomOfSorts() {
        says("one more of a sort than told (at its first TOKEN);");
        String full = times(7, "thing", " 1") + times(5, "inn", " 1 1 1") + times(6, "guest", " 1 1 1") + times(6, "post", "")
                + "twins ga gb;twins gc gd;twins ge gf;";
        good(full);
        for (String word : new String[] {"thing", "inn", "guest", "post", "twins"}) {
            for (String behind : new String[] {"", " q 1;", " q 1 1 1;", ";", " .", " qa;"}) {
                fault(full + "\n " + word + behind, 2, full.length() + 2);
            }
            // what is not told there is none more
            fault(full + "fine " + word, 1, full.length() + 5);
        }
        for (String more : new String[] {"gives ia ta 1;", "much=1;", "owes=1;", "shows=1;", "fine 1;", "seed 1;"}) {
            good(full + more.repeat(8));
        }
    }

    private static void roomOfIfs() {
        says("a 5th if of a LAW (at it);");
        String one = "if 1<2 then 3 else ";
        for (String law : new String[] {"much=", "owes=", "shows="}) {
            for (int n = 0; n <= 4; n++) good(law + one.repeat(n) + "1;");
            int place = law.length() + 4 * one.length();
            fault(law + one.repeat(5) + "1;", 2, place);
            fault(law + one.repeat(4) + "if", 2, place);
            fault(law + one.repeat(4) + "if if", 2, place);
            fault(law + one.repeat(4) + "1 if", 1, place + 2);
        }
        // of a law, not of a text
        good("much=" + one.repeat(4) + "1;much=" + one.repeat(4) + "2;owes=" + one.repeat(4) + "1;shows=" + one.repeat(4) + "1;");
    }

    private static void roomOfBrackets() {
        says("a 7th ( within one another (at it).");
        String six = "((((((1))))))";
        for (String ahead : new String[] {"much=", "much=if ", "much=if 1<", "much=if 1<2 then ", "much=if 1<2 then 3 else ", "much=1+2*"}) {
            fault(ahead + "((((((", 1, ahead.length() + 6);
            fault(ahead + "(((((((", 2, ahead.length() + 6);
            fault(ahead + "((((((1+2*(3", 2, ahead.length() + 10);
            fault(ahead + "(((1)+((2)))+((((1))))+((((((", 2, ahead.length() + 28);
        }
        // one behind the other they may be as many as there is room for
        good("much=if " + six + "<" + six + " then " + six + "+" + six + " else " + six + "*" + six + "/" + six + ";owes=" + six + ";");
        good("much=((((((1)))))+(1))+(1);");
        good("much=" + "(1)+".repeat(30) + "1;");
    }

    // ---- the later faults

    private static void laterFaultsOnlyWithoutThese() {
        says("If there is none, likewise:");
        String[] late = {"thing a 1;thing a 1;", "gives x y 1;", "fine 0;"};
        int[] numbers = {3, 4, 5};
        int[] places = {16, 6, 5};
        for (int i = 0; i < 3; i++) {
            fault(late[i], numbers[i], places[i]);
            fault(late[i] + "x", 1, late[i].length());
            fault(late[i] + "fine 1", 1, late[i].length() + 6);
            fault(late[i] + "much=(((((((1)))))));", 2, late[i].length() + 11);
            String sorts = late[i] + times(6, "post", "");
            fault(sorts + "post z;", 2, sorts.length());
        }
        String many = "fine 0;" + "fine 1;".repeat(132) + "fine 1;";
        fault(many, 2, 7 * 133 + 5);
        fault("fine 0;" + "fine 1;".repeat(132) + " ", 5, 5);
    }

    private static void twiceTold() {
        says("3 TWICE: a NAME told already (all together);");
        String[] sorts = {"thing n 1;", "inn n 1 1 1;", "guest n 1 1 1;", "post n;"};
        for (String first : sorts) {
            for (String second : sorts) {
                int place = first.length() + second.indexOf(' ') + 1;
                fault(first + second, 3, place);
                fault(first + "thing m 1;" + second, 3, place + 10);
                good(first + second.replace(" n", " nn"));
            }
        }
        // all of them: the last is the first, and the first the last
        String full = times(7, "thing", " 1") + times(5, "inn", " 1 1 1") + times(6, "guest", " 1 1 1") + times(5, "post", "");
        good(full + "post pf;");
        for (String name : new String[] {"ta", "tg", "ia", "ie", "ga", "gf", "pa", "pe"}) fault(full + "post " + name + ";", 3, full.length() + 5);
    }

    private static void twiceTwins() {
        says("(at it) a GUEST who is a TWIN already, or of himself;");
        String guests = "guest a 1 1 1;guest b 1 1 1;guest c 1 1 1;guest d 1 1 1;";
        int at = guests.length();
        fault(guests + "twins a a;", 3, at + 8);
        fault(guests + "twins d d;", 3, at + 8);
        for (String one : new String[] {"a", "b"}) {
            fault(guests + "twins a b;twins " + one + " c;", 3, at + 16);
            fault(guests + "twins a b;twins c " + one + ";", 3, at + 18);
            fault(guests + "twins a b;twins " + one + " " + one + ";", 3, at + 16);
        }
        fault(guests + "twins a b;twins b a;", 3, at + 16);
        good(guests + "twins a b;twins c d;");
        good(guests + "twins d a;twins c b;");
    }

    private static void twiceInns() {
        says("an INN again of a POST.");
        String inns = times(5, "inn", " 1 1 1");
        int at = inns.length();
        fault(inns + "post p ia ia;", 3, at + 10);
        fault(inns + "post p ie ie;", 3, at + 10);
        fault(inns + "post p ia ib ic id ie ia;", 3, at + 22);
        fault(inns + "post p ia ib ic id ie ie;", 3, at + 22);
        fault(inns + "post p ib ia ib;", 3, at + 13);
        good(inns + "post p ia ib ic id ie;post q ie id ic ib ia;post r ia;post s ia;");
    }

    private static void names() {
        says("4 NAME: (at it) no such INN, THING, GUEST told ahead");
        String all = "thing t 1;inn i 1 1 1;guest g 1 1 1;guest h 1 1 1;post p;";
        int at = all.length();
        for (String name : new String[] {"t", "i", "g", "p", "x", "tt", "ii"}) {
            if (!name.equals("i")) fault(all + "gives " + name + " t 1;", 4, at + 6);
            if (!name.equals("t")) fault(all + "gives i " + name + " 1;", 4, at + 8);
            if (!name.equals("g")) fault(all + "twins " + name + " h;", 4, at + 6);
            if (!name.equals("g")) fault(all + "twins h " + name + ";", 4, at + 8);
            if (!name.equals("i")) fault(all + "post q " + name + ";", 4, at + 7);
            if (!name.equals("i")) fault(all + "post q i " + name + ";", 4, at + 9);
        }
        fault(all + "post q q;", 4, at + 7);
        // told behind is not told ahead
        fault("gives i t 1;inn i 1 1 1;thing t 1;", 4, 6);
        fault("inn i 1 1 1;gives i t 1;thing t 1;", 4, 20);
        fault("guest g 1 1 1;twins g h;guest h 1 1 1;", 4, 22);
        fault("post p i;inn i 1 1 1;", 4, 7);
        good("inn i 1 1 1;post p i;thing t 1;gives i t 1;");
    }

    private static void namesTwice() {
        says("(a NAME told more than once is that of the first one).");
        // such a text has a fault ahead of all that could name it
        fault("inn a 1 1 1;thing a 1;gives a a 1;", 3, 18);
        fault("thing a 1;inn a 1 1 1;gives a a 1;", 3, 14);
        fault("guest a 1 1 1;guest b 1 1 1;guest a 1 1 1;twins a a;", 3, 34);
    }

    private static void wrongAtTheInt() {
        says("5 WRONG (at the INT): a number not as told above.");
        String[][] texts = {{"thing q ", "100", ";"}, {"inn q ", "100", " 1 1;"}, {"inn q 1 ", "0", " 1;"}, {"inn q 1 ", "8", " 1;"},
            {"inn q 1 1 ", "10", ";"}, {"guest q ", "1000", " 1 1;"}, {"guest q 1 ", "101", " 1;"}, {"guest q 1 1 ", "10", ";"},
            {"gives i t ", "10", ";"}, {"fine ", "0", ";"}, {"fine ", "10", ";"}};
        for (String[] t : texts) {
            fault(START + t[0] + t[1] + t[2], 5, START.length() + t[0].length());
            fault(START + t[0] + "\n  " + t[1] + t[2] + "fine 0;", 5, START.length() + t[0].length() + 3);
        }
        // in a law every number is as told
        good("much=0+9999;owes=if 9999<0000 then 9999 else 0;");
    }

    // ---- what a read text does

    private static final String BUSY = "thing a 3;thing b 4;inn i 2 3 1;inn j 9 1 0;gives j a 0;guest g 9 50 1;guest h 20 0 2;guest k 5 100 3;"
            + "twins h k;post p i;post q j;much=2+night;owes=tariff*units+twice;shows=70+which;fine 4;seed 321;";

    // A world in which there is something of everything.
    private static DreamDuty busy() {
        DreamDuty x = of(BUSY);
        for (int guest = 0; guest < 3; guest++) x.lodge(guest, 0);
        x.nights(2);
        x.deposit(0, false);
        x.morning();
        x.nights(1);
        x.hold(1);
        x.lodge(2, 1);
        x.nights(1);
        x.deposit(1, false);
        x.hold(0);
        x.swap(0, 1);
        x.tell(1);
        x.tell(0);
        return x;
    }

    private static String would(DreamDuty x) {
        StringBuilder s = new StringBuilder();
        for (int guest = 0; guest < x.count(2); guest++) {
            for (int thing = 0; thing < x.count(0); thing++) s.append(x.owes(guest, thing, 3)).append(' ');
            for (int inn = 0; inn < x.count(1); inn++) s.append(x.mean(guest, inn, false)).append('/').append(x.mean(guest, inn, true)).append(' ');
            s.append(x.shows(guest)).append(' ').append(x.poorBy(guest)).append(' ').append(x.year(guest, 2, 2)).append(" | ");
        }
        for (int inn = 0; inn < x.count(1); inn++) {
            for (int thing = 0; thing < x.count(0); thing++) s.append(x.gives(inn, thing)).append(' ');
        }
        for (int k = 0; k <= x.count(10); k++) s.append(x.from(k)).append(' ').append(x.likeliest(k)).append(' ').append(x.whose(k)).append(' ');
        return s.append(x.lodging(3)).append(' ').append(x.swaps(0)).append(' ').append(x.declares(-1)).append(' ').append(x.posts(1)).toString();
    }

    // Two borders of which one has had other texts: what they show, and what comes of a few nights.
    private static void alikeFromHereOn(DreamDuty x, DreamDuty y) {
        due("shown", shown(x), shown(y));
        for (int guest = 0; guest < y.count(2); guest++) {
            due("deposit", x.deposit(guest, true), -2);
            due("lodge", x.lodge(guest, guest % 2) ? 1 : 0, y.lodge(guest, guest % 2) ? 1 : 0);
        }
        due("nights", x.nights(3), y.nights(3));
        due("would", would(x), would(y));
        due("morning", x.morning(), y.morning());
        due("shown then", shown(x), shown(y));
    }

    // It tells of less than the ones ahead of it: no laws, no seed, no fine, no weights, no twins.
    private static final String PLAIN = "thing c 1;thing d 2;inn i 0 2 0;inn k 1 2 1;guest g 0 50 0;guest h 0 50 5;guest f 0 0 9;post p k;post q;";

    private static final String[] FAULTY = {"thing z 9;inn y 1 1 1;guest x 1 1 1;much=5;owes=6+;",
        "thing z 9;fine 9;seed 5;shows=((((((1)))))+1)*(((((((2", "thing z 9;inn y 1 1 1;gives y z 4;owes=1;thing z 1;guest f 1 1 1;",
        "inn y 5 5 5;inn x 5 5 5;guest g 1 1 1;guest h 2 2 2;much=9;fine 7;seed 99;twins g h;post q y x;post r z;",
        "guest g 7 7 7;post q;owes=2;shows=3;seed 8;inn b 9 9 9;fine 0;"};

    private static void faultChangesNothing() {
        says("A text with a FAULT changes nothing but the tape;");
        for (int number = 1; number <= 5; number++) {
            DreamDuty x = busy();
            String shown = shown(x);
            String would = would(x);
            for (int again = 0; again < 2; again++) {
                put(x, FAULTY[number - 1]);
                due("read", x.read(), number);
                due("shown", shown(x), shown);
                due("would", would(x), would);
            }
            DreamDuty y = busy();
            due("undo", x.undo() ? 1 : 0, y.undo() ? 1 : 0);
            due("shown", shown(x), shown(y));
            due("restore", x.restore(1) ? 1 : 0, y.restore(1) ? 1 : 0);
            due("shown", shown(x), shown(y));
            // what it told halfway is not told by the next one either
            for (String text : new String[] {BUSY, PLAIN}) {
                DreamDuty z = busy();
                put(z, FAULTY[number - 1]);
                due("read", z.read(), number);
                put(z, text);
                due("read behind it", z.read(), 0);
                alikeFromHereOn(z, of(text));
            }
        }
    }

    private static void goodTextInPlace() {
        says("else it is in place of the one ahead: night 0, nobody lodged, no dreams, nothing paid;");
        for (String text : new String[] {"", BUSY, PLAIN, "guest h 3 3 3;inn j 4 4 4;"}) {
            DreamDuty x = busy();
            for (int again = 0; again < 3; again++) {
                put(x, text);
                due("read", x.read(), 0);
                alikeFromHereOn(x, of(text));
                if (again == 0) put(x, BUSY);
                if (again == 0) due("read", x.read(), 0);
            }
        }
        says("nothing can be undone, nothing is TOLD, SLOTS hold nothing.");
        DreamDuty x = busy();
        put(x, BUSY);
        due("read", x.read(), 0);
        due("undone", x.count(9), 0);
        due("undo", x.undo() ? 1 : 0, 0);
        due("told", x.count(10), 0);
        due("from", x.from(1), -1);
        due("slots", x.count(11), 0);
        for (int slot = 0; slot < 3; slot++) due("restore", x.restore(slot) ? 1 : 0, 0);
    }

    // ---- promises 1 to 5

    private static void newObject() {
        says("Nothing is told.");
        DreamDuty x = new DreamDuty();
        due("as behind an empty text", shown(x), shown(of("")));
        due("would", would(x), would(of("")));
        due("place", x.place(), -1);
        due("guest", x.guest(0, 0), -100000);
        due("inn", x.inn(0, 0), -1);
        due("gives", x.gives(0, 0), -1);
        due("lodge", x.lodge(0, -1) ? 1 : 0, 0);
        due("undo", x.undo() ? 1 : 0, 0);
        due("forget", x.forget(), 0);
        for (int slot = 0; slot < 3; slot++) due("restore", x.restore(slot) ? 1 : 0, 0);
        due("tape", x.back(0), 0);
        due("read", x.read(), 0);
    }

    private static void feed() {
        says("Twenty bytes, the highest of a first, come behind the tape: how many it has.");
        for (int at = 0; at < 20; at++) {
            int[] w = new int[5];
            for (int k = 0; k < 20; k++) w[k / 4] = w[k / 4] << 8 | (k == at ? 200 : 32);
            DreamDuty x = new DreamDuty();
            due("feed", x.feed(0x20202020, 0x20202020, 0x20202020, 0x20202020, 0x20202020), 20);
            due("feed", x.feed(w[0], w[1], w[2], w[3], w[4]), 40);
            due("count", x.count(8), 40);
            due("read", x.read(), 1);
            due("place", x.place(), 20 + at);
        }
        DreamDuty x = new DreamDuty();
        due("feed", x.feed(-1, Integer.MIN_VALUE, Integer.MAX_VALUE, 0, 1), 20);
        due("read", x.read(), 1);
        due("place", x.place(), 0);
    }

    private static void feedTooMuch() {
        says("NONE, and nothing comes, if it would have more than 2,000.");
        int b = 0x20202020;
        for (int gone = 0; gone <= 20; gone++) {
            DreamDuty x = new DreamDuty();
            for (int n = 1; n <= 100; n++) due("feed", x.feed(b, b, b, b, b), 20 * n);
            due("feed", x.feed(0, 0, 0, 0, 0), -1);
            due("back", x.back(gone), 2000 - gone);
            due("feed", x.feed(b, b, b, b, b), gone < 20 ? -1 : 2000);
            due("count", x.count(8), gone < 20 ? 2000 - gone : 2000);
            // nothing of what was too much has come
            due("read", x.read(), 0);
            due("feed", x.feed(b, b, b, b, b), 20);
        }
    }

    private static void back() {
        says("The last n bytes of the tape go: how many it has.");
        DreamDuty x = new DreamDuty();
        due("back of none", x.back(0), 0);
        put(x, "fine 7;thing a 1;much");
        due("back none", x.back(0), 21);
        due("back", x.back(4), 17);
        due("back", x.back(1), 16);
        due("back", x.back(9), 7);
        put(x, "fine 8;x");
        due("back", x.back(1), 14);
        due("read", x.read(), 0);
        due("fine", x.count(12), 8);
        put(x, "fine 3;");
        due("all", x.back(7), 0);
        due("read", x.read(), 0);
        due("fine", x.count(12), 2);
    }

    private static void backTooMuch() {
        says("NONE, and nothing goes, if it has not so many, or n is below 0.");
        DreamDuty x = new DreamDuty();
        for (int n : new int[] {1, -1, Integer.MAX_VALUE, Integer.MIN_VALUE}) due("back of none " + n, x.back(n), -1);
        put(x, "fine 7;");
        for (int n : new int[] {8, 20, Integer.MAX_VALUE, -1, -7, Integer.MIN_VALUE}) {
            due("back " + n, x.back(n), -1);
            due("count", x.count(8), 7);
        }
        due("read", x.read(), 0);
        due("fine", x.count(12), 7);
        due("back behind a read", x.back(1), -1);
    }

    private static void read() {
        says("The tape, which is empty then, is read: 0, or the number of its FAULT.");
        DreamDuty x = of("thing a 1;fine 5;");
        for (int number = 1; number <= 5; number++) {
            put(x, FAULTY[number - 1]);
            due("read", x.read(), number);
            due("tape", x.count(8), 0);
            due("fine", x.count(12), 5);
        }
        put(x, "fine 6;");
        due("read", x.read(), 0);
        due("tape", x.count(8), 0);
        due("fine", x.count(12), 6);
        // an empty tape is a text without a fault, and in place of the one ahead
        due("read", x.read(), 0);
        due("fine", x.count(12), 2);
    }

    private static void place() {
        says("The byte of the latest read()'s FAULT; NONE without.");
        DreamDuty x = new DreamDuty();
        due("without a read", x.place(), -1);
        put(x, "  x");
        due("ahead of the read", x.place(), -1);
        x.read();
        due("place", x.place(), 2);
        put(x, "fine 0;");
        x.back(1);
        x.nights(1);
        due("the latest one", x.place(), 2);
        x.read();
        due("place", x.place(), 6);
        put(x, "fine 0;");
        x.read();
        due("place", x.place(), 5);
        x.read();
        due("without", x.place(), -1);
        put(x, ";");
        x.read();
        due("the first byte", x.place(), 0);
    }
}
