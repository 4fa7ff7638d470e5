/** A test for each sentence of the document's part II. that tells what a law answers, what is owed, and what LOT is. */
public final class LawBoundaryTests extends Check {
    private static final String MIN = "2048*1024*1024";
    private static final String MAX = "2048*1024*1024-1";
    private static final String[] SIX = {"ga", "gb", "gc", "gd", "ge", "gf"};

    public static void main(String[] args) {
        held();
        twinsWhoOweMore();
        twinsWhoOweAlike();
        twinsWithoutADream();
        twinsWhoPay();
        firstThatHolds();
        wraps();
        roundedTowardsNought();
        byNought();
        bindings();
        night();
        tariffAndWhich();
        units();
        cheese();
        degreeAndHonest();
        twice();
        alike();
        lots();
        end();
    }

    private static void law(String law, int want) {
        DreamDuty x = of("thing z 1;thing a 7;inn i 0 2 5;guest g 1 60 3;owes=" + law + ";");
        due("owes " + law, x.owes(0, 1, 20), want);
    }

    // Of the three laws the same one: what each tells in the end, held or not.
    private static void each(String law, int want) {
        DreamDuty x = of("thing a 7;inn i 0 2 5;guest g 1 60 3;much=" + law + ";owes=" + law + ";shows=" + law + ";");
        x.lodge(0, 0);
        x.nights(1);
        due("much " + law, x.guest(0, 3), Math.max(0, Math.min(99, want)));
        due("owes " + law, x.guest(0, 4), Math.max(0, Math.min(999, want)));
        due("shows " + law, x.shows(0), Math.max(0, Math.min(100, want)));
    }

    // ---- what is owed

    private static void held() {
        says("OWES: what the LAW tells, held to 0 .. 999;");
        law("0", 0);
        law("0-1", 0);
        law("1", 1);
        law("998", 998);
        law("999", 999);
        law("1000", 999);
        law("9999", 999);
        law(MIN, 0);
        law(MAX, 999);
        each("0-1", -1);
        each("998", 998);
        each("1000", 1000);
        each(MIN, Integer.MIN_VALUE);
        each(MAX, Integer.MAX_VALUE);
    }

    // Six guests who owe ten times their degrees, all lodged, with a dream each.
    private static DreamDuty owing(String twins, int... degrees) {
        StringBuilder s = new StringBuilder("thing a 1;inn i 0 7 0;");
        for (int g = 0; g < 6; g++) s.append("guest ").append(SIX[g]).append(" 0 100 ").append(degrees[g]).append(';');
        DreamDuty x = of(s + twins + "owes=10*degree;");
        for (int g = 0; g < 6; g++) x.lodge(g, 0);
        x.nights(1);
        return x;
    }

    private static void owe(String what, DreamDuty x, int... tens) {
        for (int g = 0; g < 6; g++) due(what + ", guest " + g, x.guest(g, 4), 10 * tens[g]);
    }

    private static void twinsWhoOweMore() {
        says("of two TWINS who both have a DREAM only who owes more pays so");
        owe("the first owes more", owing("twins ga gb;", 5, 3, 1, 1, 1, 1), 5, 0, 1, 1, 1, 1);
        owe("the second owes more", owing("twins ga gb;", 3, 5, 1, 1, 1, 1), 0, 5, 1, 1, 1, 1);
        owe("told the other way round", owing("twins gb ga;", 5, 4, 1, 1, 1, 1), 5, 0, 1, 1, 1, 1);
        owe("told the other way round", owing("twins gb ga;", 4, 5, 1, 1, 1, 1), 0, 5, 1, 1, 1, 1);
        owe("one owes nothing", owing("twins ga gf;", 0, 9, 9, 9, 9, 1), 0, 9, 9, 9, 9, 1);
        owe("three of them", owing("twins ga gf;twins ge gb;twins gc gd;", 1, 2, 3, 4, 5, 6), 0, 0, 0, 4, 5, 6);
        owe("three of them", owing("twins ga gf;twins ge gb;twins gc gd;", 6, 5, 4, 3, 2, 1), 6, 5, 4, 0, 0, 0);
        owe("none of them", owing("", 1, 1, 1, 1, 1, 1), 1, 1, 1, 1, 1, 1);
    }

    private static void twinsWhoOweAlike() {
        says("(of alike ones the one with the lesser number), the other one owes 0.");
        owe("alike", owing("twins ga gb;", 4, 4, 4, 4, 4, 4), 4, 0, 4, 4, 4, 4);
        owe("told the other way round", owing("twins gf ga;", 4, 4, 4, 4, 4, 4), 4, 4, 4, 4, 4, 0);
        owe("three of them", owing("twins gf gc;twins gb ge;twins gd ga;", 4, 4, 4, 4, 4, 4), 4, 4, 4, 0, 0, 0);
        owe("nothing", owing("twins ga gb;", 0, 0, 0, 0, 0, 0), 0, 0, 0, 0, 0, 0);
        // what is held to 999 is alike
        DreamDuty x = of("thing a 1;inn i 0 2 0;guest g 0 0 1;guest h 0 0 2;twins g h;owes=998+degree;");
        x.lodge(0, 0);
        x.lodge(1, 0);
        x.nights(1);
        due("held", x.guest(0, 4), 999);
        due("held", x.guest(1, 4), 0);
    }

    private static void twinsWithoutADream() {
        says("who both have a DREAM");
        for (int without = 0; without < 2; without++) {
            DreamDuty x = owing("twins ga gb;", 4, 4, 1, 1, 1, 1);
            x.deposit(without, false);
            due("who has none", x.guest(without, 4), 0);
            due("whose twin has none", x.guest(1 - without, 4), 40);
            x.deposit(without, true);
            due("both", x.guest(0, 4) + x.guest(1, 4), 40);
            // by being lodged nowhere a dream is not lost
            x.lodge(without, -1);
            due("both", x.guest(0, 4) + x.guest(1, 4), 40);
        }
    }

    private static void twinsWhoPay() {
        says("only who owes more pays so");
        DreamDuty x = owing("twins ga gb;", 3, 5, 1, 1, 1, 1);
        due("morning", x.morning(), 50 + 40);
        due("who owes less", x.guest(0, 0), 0);
        due("declares all the same", x.guest(0, 6), 1);
        due("who owes more", x.guest(1, 0), -50);
    }

    // ---- laws

    private static void firstThatHolds() {
        says("LAWS: the E of the first if that holds (one less than the other), else the last one;");
        law("if 1<2 then 3 else 4", 3);
        law("if 2<2 then 3 else 4", 4);
        law("if 3<2 then 3 else 4", 4);
        law("if 0-1<0 then 3 else 4", 3);
        law("if 0-2<0-1 then 3 else 4", 3);
        law("if 0-1<0-2 then 3 else 4", 4);
        law("if " + MIN + "<" + MAX + " then 3 else 4", 3);
        law("if " + MAX + "<" + MIN + " then 3 else 4", 4);
        for (int holds = 0; holds < 16; holds++) {
            StringBuilder s = new StringBuilder();
            int want = 14;
            for (int n = 3; n >= 0; n--) if ((holds >> n & 1) == 1) want = 10 + n;
            for (int n = 0; n < 4; n++) {
                s.append("if ").append(holds >> n & 1).append("*2<").append((holds >> n & 1) + (holds >> n & 1) * 2).append(" then ").append(10 + n).append(" else ");
            }
            law(s + "14", want);
        }
        // nothing of the others is left over
        law("(1+2)*3", 9);
        law("if 1+2*3<2*(3+1) then 2*(1+1) else 5*(1+1)", 4);
        law("if 2*(3+1)<1+2*3 then 2*(1+1) else 5*(1+1)", 10);
        each("if tariff<7 then 1 else if tariff<8 then 2 else 3", 2);
    }

    private static void wraps() {
        says("ints of 32 bits that wrap,");
        law("if " + MAX + "<0 then 3 else 4", 4);
        law("if " + MAX + "+1<0 then 3 else 4", 3);
        law("if " + MIN + "<0 then 3 else 4", 3);
        law("if 0-" + MIN + "<0 then 3 else 4", 3);
        law("if " + MIN + "-1<0 then 3 else 4", 4);
        law(MIN + "+" + MIN, 0);
        law("2*(" + MAX + ")+7", 5);
        law(MIN + "*2+5", 5);
        law("(" + MIN + ")*(" + MIN + ")+6", 6);
        law("4096*1024*1024+8", 8);
        // what it wraps to is divided: -1027349969 and 1089432001
        law("9999*9999*9999/9999/9999+500", 490);
        law("9999*9999*9999*9999/9999/9999", 10);
        law("if 9999*9999*9999<0 then 3 else 4", 3);
        // the least by -1 is the least again
        law("if (" + MIN + ")/(0-1)<0 then 3 else 4", 3);
        law("(" + MIN + ")/(0-1)+" + MIN + "+9", 9);
    }

    private static void roundedTowardsNought() {
        says("/ rounded towards 0;");
        law("7/2", 3);
        law("1/2", 0);
        law("10+(0-1)/2", 10);
        law("10+(0-7)/2", 7);
        law("10+7/(0-2)", 7);
        law("(0-7)/(0-2)", 3);
        law("10+(0-8)/2", 6);
        law("(" + MAX + ")/" + "(" + MAX + ")", 1);
        law("0/5", 0);
        law("0/(0-5)+3", 3);
    }

    private static void byNought() {
        says("a LAW in which something that is looked at is divided by 0 is 0.");
        each("1/0", 0);
        each("0/0", 0);
        each("50+1/0", 0);
        each("50+0*(1/0)", 0);
        each("50-1/(tariff-7)", 0);
        each("1/0+50", 0);
        each("if 1/0<1 then 50 else 60", 0);
        each("if 0<1/0 then 50 else 60", 0);
        each("if 0<1 then 1/0 else 60", 0);
        each("if 1<0 then 50 else 1/0", 0);
        // what is not looked at may be
        each("if 0<1 then 50 else 1/0", 50);
        each("if 1<0 then 1/0 else 60", 60);
        each("if 0<1 then 50 else if 1/0<1 then 60 else 70", 50);
        each("if 1<0 then 1/0 else if 0<1 then 60 else 1/0", 60);
        each("if 1<0 then 50 else if 1/0<1 then 60 else 70", 0);
        each("0/1", 0);
        each("50/(0-1)+99", 49);
    }

    private static void bindings() {
        says("E: PART {('+' | '-') PART}. PART: UNIT {('*' | '/') UNIT}. UNIT: INT | VAR | '(' E ')'.");
        law("1+2*3+4*5", 27);
        law("100-10-5+3", 88);
        law("100/5/2*3", 30);
        law("100/(5/2)*3", 150);
        law("2*3-4/2+(7-2)*(1+1)", 14);
        law("((((((2))))))*((((((3))))))", 6);
        law("1+(2*(3+(4*(5+(6*(7))))))", 1 + 2 * (3 + 4 * 47));
        law("900-(8-(7-(6-(5-(4-(3))))))", 900 - (8 - (7 - (6 - (5 - (4 - 3))))));
        law("1+1*(1+1*(1+1*(1+1*(1+1*(1+1*(1+1))))))", 8);
    }

    // ---- variables

    private static void night() {
        says("night;");
        DreamDuty x = of("thing a 7;inn i 0 2 5;guest g 1 60 3;much=night;owes=night;shows=night;");
        x.lodge(0, 0);
        due("owes would", x.owes(0, 0, 0), 0);
        for (int n = 0; n < 120; n++) {
            due("night", x.nights(1), n + 1);
            // as he dreams it is the night ahead still
            if (n % 10 == 9) due("much", x.guest(0, 3), Math.min(99, n));
            if (n % 10 == 9) due("owes", x.guest(0, 4), n + 1);
            if (n % 10 == 9) due("shows", x.shows(0), Math.min(100, n + 1));
        }
    }

    // Three things, of which each inn gives one alone.
    private static final String THREE = "thing a 0;thing b 7;thing c 99;inn i 0 6 1;inn j 0 6 4;inn k 0 6 9;"
            + "gives i b 0;gives i c 0;gives j a 0;gives j c 0;gives k a 0;gives k b 0;" + "guest ga 0 0 0;guest gb 0 60 3;guest gc 0 100 9;";

    private static DreamDuty three(String laws) {
        DreamDuty x = of(THREE + laws);
        for (int g = 0; g < 3; g++) x.lodge(g, g);
        x.nights(1);
        return x;
    }

    private static void tells(String what, String law, int... of) {
        DreamDuty x = three("much=" + law + ";owes=" + law + ";shows=" + law + ";");
        for (int g = 0; g < 3; g++) {
            due("much " + what, x.guest(g, 3), of[g]);
            due("owes " + what, x.guest(g, 4), of[g]);
            due("shows " + what, x.shows(g), of[g]);
        }
    }

    private static void tariffAndWhich() {
        says("tariff, which: of the THING, its number;");
        tells("tariff", "tariff", 0, 7, 99);
        tells("which", "which", 0, 1, 2);
        // of the thing that he has now
        DreamDuty x = three("owes=100*which+tariff;");
        x.swap(0, 2);
        due("swapped", x.guest(0, 4), 299);
        due("swapped", x.guest(2, 4), 0);
        for (int thing = 0; thing < 3; thing++) due("would", x.owes(1, thing, 0), thing * 100 + new int[] {0, 7, 99}[thing]);
    }

    private static void units() {
        says("units (MUCH: 0);");
        DreamDuty x = three("much=units+7;owes=units;shows=units;");
        for (int again = 0; again < 3; again++) {
            for (int g = 0; g < 3; g++) {
                due("much", x.guest(g, 3), 7);
                due("owes", x.guest(g, 4), 7);
                due("shows", x.shows(g), 7);
            }
            x.nights(1);
        }
        for (int n = 0; n < 100; n++) due("would", x.owes(0, 0, n), n);
        due("in the mean", x.mean(0, 0, false), 7);
    }

    private static void cheese() {
        says("cheese: of the INN where he is lodged (0: nowhere);");
        tells("cheese", "cheese", 1, 4, 9);
        DreamDuty x = three("owes=cheese+1;shows=cheese+1;");
        x.lodge(0, 2);
        x.lodge(2, -1);
        due("where he is lodged now", x.guest(0, 4), 10);
        due("where he is lodged now", x.shows(0), 10);
        due("nowhere", x.guest(2, 4), 1);
        due("nowhere", x.shows(2), 1);
        due("would", x.owes(0, 1, 1), 10);
        due("would, nowhere", x.owes(2, 1, 1), 1);
        x.swap(0, 2);
        due("his inn, not the dream's", x.guest(2, 4), 1);
    }

    private static void degreeAndHonest() {
        says("degree, honest: the GUEST's;");
        tells("degree", "degree", 0, 3, 9);
        tells("honest", "honest/2", 0, 30, 50);
    }

    private static void twice() {
        says("twice: 1 if the DREAM was (MUCH: is) TWICE, else 0;");
        DreamDuty x = of("thing a 1;inn i 0 6 1;guest ga 0 0 0;guest gb 0 0 0;guest gc 0 0 0;much=5+twice;owes=7+twice;shows=9+twice;");
        for (int g = 0; g < 3; g++) x.lodge(g, 0);
        x.nights(1);
        for (int g = 0; g < 3; g++) {
            due("much", x.guest(g, 3), g == 0 ? 5 : 6);
            due("owes", x.guest(g, 4), g == 0 ? 7 : 8);
            due("shows", x.shows(g), g == 0 ? 9 : 10);
        }
        // it was: whoever has it now, whatever was dreamt there since
        x.lodge(0, -1);
        x.lodge(2, -1);
        x.nights(1);
        x.swap(0, 2);
        due("was not", x.guest(2, 4), 7);
        due("was", x.guest(0, 4), 8);
        x.deposit(0, false);
        x.swap(0, 2);
        x.deposit(2, true);
        due("nobody's", x.guest(2, 4), 0);
        x.swap(0, 2);
        x.deposit(0, true);
        due("was, and back from deposit", x.guest(0, 4), 8);
    }

    private static void alike() {
        says("alike: how many other GUESTS have a DREAM of the same THING now (MUCH: as it stands then).");
        DreamDuty x = of("thing a 1;inn i 0 7 0;" + times(6, "guest", " 0 0 0") + "much=alike;owes=alike;shows=alike;");
        for (int g = 0; g < 6; g++) x.lodge(g, 0);
        x.nights(1);
        for (int g = 0; g < 6; g++) {
            due("as it stood then", x.guest(g, 3), g);
            due("now", x.guest(g, 4), 5);
            due("now", x.shows(g), 5);
        }
        x.nights(1);
        for (int g = 0; g < 6; g++) due("dreams of the night ahead", x.guest(g, 3), 5);
        for (int g = 0; g < 6; g++) {
            x.deposit(g, false);
            for (int other = g + 1; other < 6; other++) due("on deposit is not had", x.guest(other, 4), 4 - g);
        }
        // of another thing is not alike, wherever it was dreamt
        x = three("owes=alike+1;");
        for (int g = 0; g < 3; g++) due("others", x.guest(g, 4), 1);
        x.lodge(0, 1);
        x.nights(1);
        due("two", x.guest(0, 4), 2);
        due("two", x.guest(1, 4), 2);
        due("another", x.guest(2, 4), 1);
        x.lodge(0, -1);
        due("lodged nowhere", x.guest(1, 4), 2);
    }

    // ---- lots

    private static void lots() {
        says("LOT n of a SEED and a which: h is the SEED; for each of 63, which: h becomes (h and it, each bit of which is in just one)"
                + " times 1103515245 and 12345 more, then h and h moved 15 bits down (zeros come in), likewise;"
                + " the rest of h, moved 1 bit down likewise, by n (32 bits that wrap).");
        // Worked out by another program: the things of guests 0 to 5, a night a row, by lots of 63.
        int[] seeds = {0, 1, 4096, 9999};
        String[][] things = {{"131041", "655023", "153251", "112306", "235333", "300303"},
            {"336231", "644420", "012130", "205442", "524451", "460153"},
            {"152340", "505032", "643612", "102536", "542425", "035021"},
            {"655225", "215410", "042141", "444126", "343353", "332403"}};
        StringBuilder world = new StringBuilder(times(7, "thing", " 1") + "inn i 0 7 0;" + times(6, "guest", " 0 0 0"));
        for (int t = 0; t < 7; t++) world.append("gives i t").append((char) ('a' + t)).append(" 9;");
        for (int s = 0; s < seeds.length; s++) {
            DreamDuty x = of(world + "seed " + seeds[s] + ";");
            for (int g = 0; g < 6; g++) x.lodge(g, 0);
            for (int night = 0; night < 6; night++) {
                x.nights(1);
                for (int g = 0; g < 6; g++) due("seed " + seeds[s] + ", night " + night + ", guest " + g, x.guest(g, 2), things[s][night].charAt(g) - '0');
            }
        }
    }
}
