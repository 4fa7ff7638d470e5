/** A test for each sentence of the document's part III., what would be, and of promises 15 to 25. */
public final class WouldBoundaryTests extends Check {
    // Five inns that give one thing each: a dream of as many units as its tariff is.
    private static final String FIVE = "thing a 1;thing b 2;thing c 3;thing d 4;thing e 5;" + times(5, "inn", " 0 7 0") + alone();

    public static void main(String[] args) {
        nothingHappens();
        meanOfAll();
        meanAsIfNow();
        meanWithoutHisOwn();
        meanLessened();
        meanNone();
        sure();
        sureNone();
        lodgingBeds();
        lodgingLeast();
        lodgingAlike();
        lodgingRoundedDown();
        lodgingSets();
        lodgingTooFewBeds();
        lodgingAt();
        swapsOnce();
        swapsFewest();
        swapsFirst();
        swapsTwins();
        swapsAnswers();
        declareHides();
        declareHundredths();
        declareRests();
        declareAnswers();
        postsFewest();
        postsAnswers();
        yearBySeeds();
        yearNone();
        poorBy();
        poorByNone();
        owes();
        owesNone();
        shows();
        end();
    }

    private static String alone() {
        StringBuilder s = new StringBuilder();
        for (char inn = 'a'; inn < 'f'; inn++) {
            for (char thing = 'a'; thing < 'f'; thing++) if (inn != thing) s.append("gives i").append(inn).append(' ').append(thing).append(" 0;");
        }
        return s.toString();
    }

    // Guests of these degrees, lodged at these inns (none below 0), behind a night.
    private static DreamDuty dreaming(String more, int[] degrees, int... inns) {
        StringBuilder s = new StringBuilder(FIVE);
        for (int g = 0; g < degrees.length; g++) s.append("guest g").append((char) ('a' + g)).append(" 0 0 ").append(degrees[g]).append(';');
        DreamDuty x = of(s + "much=tariff;" + more);
        for (int g = 0; g < inns.length; g++) if (inns[g] >= 0) x.lodge(g, inns[g]);
        x.nights(1);
        return x;
    }

    private static void nothingHappens() {
        says("What would be (nothing happens).");
        DreamDuty x = dreaming("twins ga gb;seed 5;owes=units*degree;post p ia;", new int[] {1, 2, 3, 4, 5, 6}, 0, 1, 2, 3, 4, 4);
        x.deposit(5, false);
        x.tell(0);
        still(x, () -> {
            for (int g = -1; g < 7; g++) {
                x.owes(g, 0, 3);
                x.mean(g, 1, false);
                x.mean(g, 4, true);
                x.year(g, 30, 20);
                x.poorBy(g);
                x.shows(g);
            }
            for (int i = -1; i < 6; i++) {
                x.sure(i);
                x.swaps(i);
                x.declares(i);
                x.posts(i);
                x.from(i);
                x.likeliest(i);
                x.whose(i);
            }
            for (int set = 0; set < 64; set += 3) {
                x.lodging(set);
                x.lodgingAt(set, 0);
            }
        });
        // nor does what was tried last time stay
        due("swaps", x.swaps(0), x.swaps(0));
        due("year", x.year(0, 5, 5), x.year(0, 5, 5));
    }

    // ---- in the mean

    private static void meanOfAll() {
        says("IN THE MEAN of an INN for a GUEST, as if he dreamt there now, all others as they are: what he OWES over all THINGS by WEIGHT");
        String world = "thing a 1;thing b 10;thing c 100;inn i 0 1 0;inn j 0 1 0;inn k 0 1 0;gives i a 9;gives i b 0;gives j a 0;gives j b 0;gives k a 0;gives k c 0;";
        DreamDuty x = of(world.replace("thing c 100", "thing c 99") + "guest g 1 1 1;owes=tariff;");
        due("(9 * 1 + 99) / 10", x.mean(0, 0, false), 54);
        due("by", x.mean(0, 0, true), 5);
        due("the last alone", x.mean(0, 1, false), 99);
        due("by", x.mean(0, 1, true), 1);
        due("the middle one alone", x.mean(0, 2, false), 10);
        due("by", x.mean(0, 2, true), 1);
        // each is held to 999 before it is weighed
        x = of("thing a 1;thing b 1;inn i 0 1 0;guest g 1 1 1;owes=if which<1 then 5000 else 0-5000;");
        due("held", x.mean(0, 0, false), 999);
        due("by", x.mean(0, 0, true), 2);
    }

    private static void meanAsIfNow() {
        says("(UNITS by MUCH, TWICE as it would be;");
        DreamDuty x = of("thing a 1;inn i 0 6 3;inn j 0 6 7;guest g 0 0 2;guest h 0 0 4;guest k 0 0 6;much=10*twice+night;owes=100*twice+units+20*cheese*0+alike;");
        due("nobody yet", x.mean(0, 0, false), 0);
        x.lodge(0, 0);
        x.nights(1);
        due("by himself", x.mean(0, 0, false), 1);
        due("by another one, and alike", x.mean(1, 0, false), 100 + 11 + 1);
        due("at the other inn", x.mean(1, 1, false), 1 + 1);
        due("at the other inn", x.mean(0, 1, false), 1);
        x.lodge(1, 0);
        x.nights(1);
        due("by the other one now", x.mean(0, 0, false), 100 + 12 + 1);
        due("by himself now", x.mean(1, 0, false), 2 + 1);
        due("whoever is lodged nowhere", x.mean(2, 0, false), 100 + 12 + 2);
        // units are held to 99, and the cheese is the inn's, not the one's where he is
        DreamDuty y = of("thing a 1;inn i 0 1 3;inn j 0 1 7;guest g 0 0 2;guest h 0 0 2;much=cheese*20;owes=units+cheese;");
        y.lodge(0, 1);
        due("his cheese would be", y.mean(0, 0, false), 63);
        due("held units", y.mean(0, 1, false), 99 + 7);
        due("no bed", y.mean(1, 1, false), 99 + 7);
    }

    private static void meanWithoutHisOwn() {
        says("his own DREAM, TWINS not looked at),");
        DreamDuty x = of("thing a 3;inn i 0 6 0;guest g 0 0 1;guest h 0 0 9;twins g h;owes=tariff*degree+10*alike+units;");
        due("both would", x.mean(0, 0, false), 4);
        x.lodge(0, 0);
        x.lodge(1, 0);
        x.nights(1);
        due("his twin owes more", x.guest(0, 4), 0);
        due("not looked at", x.mean(0, 0, false), 3 + 10 + 1);
        due("his own is none of the others", x.mean(1, 0, false), 27 + 10 + 1);
        due("would", x.owes(0, 0, 5), 3 + 10 + 5);
        x.deposit(0, false);
        due("without his own", x.mean(0, 0, false), 3 + 10 + 1);
        due("without the other's", x.mean(1, 0, false), 27 + 1);
    }

    private static void meanLessened() {
        says("as a fraction that cannot be lessened (0 by 1).");
        int[][] all = {{9, 9, 1, 2}, {6, 3, 2, 3}, {6, 4, 3, 5}, {0, 5, 0, 1}, {5, 0, 1, 1}, {1, 9, 1, 10}, {2, 8, 1, 5}, {9, 1, 9, 10}, {0, 0, 0, 1}};
        for (int[] w : all) {
            DreamDuty x = of("thing a 1;thing b 1;inn i 0 1 0;gives i a " + w[0] + ";gives i b " + w[1] + ";guest g 0 0 0;owes=if which<1 then 1 else 0;");
            due(w[0] + " and " + w[1], x.mean(0, 0, false), w[2]);
            due(w[0] + " and " + w[1], x.mean(0, 0, true), w[3]);
        }
        StringBuilder s = new StringBuilder(times(7, "thing", " 99") + "inn i 0 1 0;inn j 0 1 0;guest g 0 0 0;gives j ta 8;");
        for (char t = 'a'; t < 'h'; t++) s.append("gives i t").append(t).append(" 9;");
        DreamDuty x = of(s + "owes=999;");
        due("999 of 63 by 63", x.mean(0, 0, false), 999);
        due("999 of 63 by 63", x.mean(0, 0, true), 1);
        x = of(s + "owes=999-which/6;");
        due("the greatest", x.mean(0, 0, false), 999 * 7 - 1);
        due("the greatest", x.mean(0, 0, true), 7);
        x = of(s + "owes=if which<1 then 999 else 998;");
        due("that cannot be lessened", x.mean(0, 1, false), 8 * 999 / 2 + 6 * 998 / 2);
        due("that cannot be lessened", x.mean(0, 1, true), 7);
    }

    private static void meanNone() {
        says("IN THE MEAN; NONE: no such ones.");
        DreamDuty x = dreaming("", new int[6], 0);
        due("the last ones", x.mean(5, 4, true), 1);
        for (boolean below : new boolean[] {false, true}) {
            for (int g : new int[] {-1, 6, 7}) due("guest " + g, x.mean(g, 0, below), -1);
            for (int i : new int[] {-1, 5, 6}) due("inn " + i, x.mean(0, i, below), -1);
            for (int w : WILD) {
                due("wild", x.mean(w, 0, below), -1);
                due("wild", x.mean(0, w, below), -1);
                due("wild", x.mean(w, w, below), -1);
            }
            DreamDuty y = of("inn i 1 1 1;guest g 1 1 1;");
            due("no things: 0 by 1", y.mean(0, 0, below), below ? 1 : 0);
        }
    }

    // ---- sure

    private static void sure() {
        says("SURE of a THING: the INN that gives it with the greatest share of its WEIGHTS; of alike ones the first.");
        String world = "thing a 1;thing b 1;thing c 1;inn i 0 1 0;inn j 0 1 0;inn k 0 1 0;";
        due("all alike", of(world).sure(0), 0);
        due("all alike", of(world).sure(2), 0);
        due("the last by a little", of(world + "gives k c 2;").sure(2), 2);
        due("the others less by it", of(world + "gives k c 2;").sure(0), 0);
        due("a lesser weight, a greater share", of(world + "gives i a 9;gives i b 9;gives j b 0;gives j c 0;").sure(0), 1);
        due("alike by other numbers", of(world + "gives j a 9;gives j b 9;gives j c 9;gives k a 4;gives k b 4;gives k c 4;").sure(1), 0);
        due("8/55 and 9/62", of("thing a 1;" + sixMore("i", 8, 47) + sixMore("j", 9, 53)).sure(0), 0);
        due("9/62 and 8/55", of("thing a 1;" + sixMore("i", 9, 53) + sixMore("j", 8, 47)).sure(0), 1);
        due("an inn without weights", of(world + "gives i a 0;gives i b 0;gives i c 0;").sure(0), 1);
    }

    // An inn that gives the first thing with one weight, and six more with the other one together.
    private static String sixMore(String inn, int weight, int others) {
        StringBuilder s = new StringBuilder();
        if (inn.equals("i")) for (char t = 'b'; t < 'h'; t++) s.append("thing ").append(t).append(" 1;");
        s.append("inn ").append(inn).append(" 0 7 0;gives ").append(inn).append(" a ").append(weight).append(';');
        int left = others;
        for (char t = 'b'; t < 'h'; t++) {
            int w = Math.min(9, left);
            s.append("gives ").append(inn).append(' ').append(t).append(' ').append(w).append(';');
            left -= w;
        }
        return s.toString();
    }

    private static void sureNone() {
        says("SURE; -2: no INN gives it; NONE: no such THING.");
        DreamDuty x = of(times(7, "thing", " 1") + "inn i 0 1 0;inn j 0 1 0;gives i tb 0;gives j tb 0;gives i tg 0;");
        due("no inn", x.sure(1), -2);
        due("one inn", x.sure(6), 1);
        due("no inns", of("thing a 1;").sure(0), -2);
        for (int thing : new int[] {-1, 7, 8}) due("thing " + thing, x.sure(thing), -1);
        for (int w : WILD) due("wild", x.sure(w), -1);
        due("no things", of("inn i 1 1 1;").sure(0), -1);
    }

    // ---- lodging

    private static void at(String what, DreamDuty x, int set, int sum, int... inns) {
        due(what + ": the sum", x.lodging(set), sum);
        for (int i = 0; i < inns.length; i++) due(what + ": inn of " + i, x.lodgingAt(set, i), inns[i]);
        due(what + ": not so many", x.lodgingAt(set, inns.length), -1);
    }

    private static void lodgingBeds() {
        says("LODGING for a set of GUESTS, 4 at most: each at some INN, no INN over its BEDS (those lodged who are not of the set count),");
        DreamDuty x = of("thing a 0;inn i 1 2 0;inn j 5 1 0;inn k 9 3 0;" + times(6, "guest", " 0 0 0"));
        at("one", x, 32, 1, 0);
        at("two beds", x, 3, 2, 0, 0);
        at("a third", x, 7, 7, 0, 0, 1);
        at("a fourth", x, 15, 16, 0, 0, 1, 2);
        at("others of them", x, 60, 16, 0, 0, 1, 2);
        x.lodge(5, 0);
        at("one bed is his", x, 3, 6, 0, 1);
        at("one bed is his", x, 15, 1 + 5 + 18, 0, 1, 2, 2);
        at("he is of the set", x, 32 + 3, 7, 0, 0, 1);
        x.lodge(4, 0);
        at("no bed", x, 1, 5, 1);
        at("no bed", x, 15, 5 + 27, 1, 2, 2, 2);
        x.lodge(3, 1);
        x.lodge(0, 2);
        at("his own bed is free for him", x, 1, 9, 2);
        at("for others it is not", x, 2, 9, 2);
        at("two of them", x, 2 + 1, 18, 2, 2);
        at("those of the set change theirs", x, 8 + 1, 14, 1, 2);
    }

    private static void lodgingLeast() {
        says("so that PRICES and IN THE MEAN together are least;");
        // the dearer inn has no cheese: who has degrees had better go there
        String world = "thing a 1;inn i 3 1 5;inn j 7 1 0;guest g 0 0 9;guest h 0 0 0;guest k 0 0 1;owes=degree*cheese;";
        DreamDuty x = of(world);
        at("alone: 7, not 48", x, 1, 7, 1);
        at("alone: 3", x, 2, 3, 0);
        at("alone: 7, not 8", x, 4, 7, 1);
        at("two", x, 3, 10, 1, 0);
        at("two", x, 5, 7 + 8, 1, 0);
        at("two", x, 6, 10, 0, 1);
        // for nothing, which is least, whatever comes behind it
        x = of("thing a 1;inn i 0 2 0;inn j 1 7 0;" + times(6, "guest", " 0 0 0") + "owes=0;");
        at("for nothing", x, 1, 0, 0);
        at("for nothing, both", x, 3, 0, 0, 0);
        at("for next to nothing", x, 7, 1, 0, 0, 1);
        x = of("thing a 1;inn i 1 7 0;inn j 0 2 0;" + times(6, "guest", " 0 0 0") + "owes=0;");
        at("for nothing, at the last", x, 3, 0, 1, 1);
        // in the mean, not at the most
        x = of("thing a 1;thing b 9;inn i 0 1 0;inn j 4 1 0;gives i a 5;gives j b 0;guest g 0 0 0;owes=tariff;");
        at("14/6 ahead of 5", x, 1, 2, 0);
        // by the last fraction
        x = of("thing a 1;" + sixMore("i", 8, 47) + sixMore("j", 9, 53) + "guest y 0 0 0;owes=if which<1 then 1 else 0;");
        at("9/62 ahead of 8/55", x, 1, 0, 1);
        x = of("thing a 1;" + sixMore("i", 9, 53) + sixMore("j", 8, 47) + "guest y 0 0 0;guest z 0 0 0;guest x 0 0 0;guest w 0 0 0;owes=if which<1 then 999 else 0;");
        at("four times 9/62 of 999", x, 15, 580, 0, 0, 0, 0);
        // five inns, four guests: the last way of all, and the dearest that can be
        x = of("thing a 1;inn i 99 7 0;inn j 98 7 0;inn k 97 7 0;inn l 96 7 0;inn m 95 7 0;" + times(6, "guest", " 0 0 0") + "owes=999;");
        at("the last inn for all", x, 15, 4 * (95 + 999), 4, 4, 4, 4);
        at("the last inn for all", x, 60, 4 * (95 + 999), 4, 4, 4, 4);
        StringBuilder nines = new StringBuilder(times(7, "thing", " 99") + times(5, "inn", " 99 7 0") + times(6, "guest", " 0 0 0"));
        for (char i = 'a'; i < 'f'; i++) for (char t = 'a'; t < 'h'; t++) nines.append("gives i").append(i).append(" t").append(t).append(" 9;");
        at("the greatest weights", of(nines + "owes=999;"), 15, 4 * (99 + 999), 0, 0, 0, 0);
        // of 63, 62, 61, 59 and 53 each: what divides all of them is great
        String uneven = nines + "gives ib ta 8;gives ic ta 7;gives id ta 5;gives ie tb 8;gives ie ta 0;owes=if which<1 then 999 else 998;";
        at("uneven weights", of(uneven), 15, 4 * (99 + 998), 4, 4, 4, 4);
        x = of("thing a 1;inn i 99 1 0;inn j 98 1 0;inn k 97 1 0;inn l 96 1 0;inn m 95 1 0;" + times(6, "guest", " 0 0 0") + "owes=0;");
        at("each another one", x, 15, 98 + 97 + 96 + 95, 1, 2, 3, 4);
    }

    private static void lodgingAlike() {
        says("of alike ones the first by the first GUEST's INN, then the next one's:");
        String guests = times(6, "guest", " 0 0 0");
        at("all alike", of("inn i 3 7 0;inn j 3 7 0;inn k 3 7 0;" + guests), 15, 12, 0, 0, 0, 0);
        at("a bed each", of("inn i 3 1 0;inn j 3 1 0;inn k 3 1 0;inn l 3 1 0;" + guests), 54, 12, 0, 1, 2, 3);
        at("the first first", of("inn i 3 2 0;inn j 3 1 0;inn k 3 1 0;" + guests), 15, 12, 0, 0, 1, 2);
        at("the least ahead of the first", of("inn i 4 1 0;inn j 3 1 0;inn k 3 2 0;" + guests), 7, 9, 1, 2, 2);
        at("fractions alike", of("thing a 1;thing b 1;inn i 1 1 0;inn j 1 1 0;gives j a 4;gives j b 4;" + guests + "owes=1-which;"), 3, 3, 0, 1);
    }

    private static void lodgingRoundedDown() {
        says("the sum, rounded down.");
        String world = "thing a 1;thing b 1;thing c 1;inn i 0 7 0;" + times(6, "guest", " 0 0 0");
        int[] sets = {1, 3, 7, 15};
        String third = "owes=if which<1 then 1 else 0;";
        String twoThirds = "owes=if which<2 then 1 else 0;";
        for (int n = 1; n <= 4; n++) {
            due(n + " thirds", of(world + third).lodging(sets[n - 1]), n / 3);
            due(n + " times two thirds", of(world + twoThirds).lodging(sets[n - 1]), 2 * n / 3);
        }
        // each is not rounded for itself: a half and a third and a sixth
        DreamDuty x = of("thing a 1;thing b 1;inn i 0 1 0;inn j 0 1 0;inn k 0 1 0;gives j b 2;gives k b 5;guest g 0 0 0;guest h 0 0 0;guest l 0 0 0;guest m 0 0 0;owes=1-which;");
        at("a half and a third and a sixth", x, 7, 1, 0, 1, 2);
        at("a half and a third are too many", x, 3, 0, 1, 2);
    }

    private static void lodgingSets() {
        says("LODGING (a set of 1 to 4 GUESTS): the sum;");
        DreamDuty x = of("thing a 0;inn i 1 7 0;" + times(6, "guest", " 0 0 0"));
        for (int set = 1; set < 64; set++) due("set " + set, x.lodging(set), Integer.bitCount(set) <= 4 ? Integer.bitCount(set) : -1);
        says("not so many BEDS; NONE: no such ones.");
        for (int set : new int[] {0, -1, 64, 65, 128, 31, 63, 95, 1 << 30}) due("set " + set, x.lodging(set), -1);
        for (int w : WILD) due("wild", x.lodging(w), -1);
        DreamDuty y = of("inn i 1 7 0;guest g 1 1 1;");
        due("the only one", y.lodging(1), 1);
        due("no such one", y.lodging(2), -1);
        due("one of them is none", y.lodging(3), -1);
        due("nobody", new DreamDuty().lodging(1), -1);
        due("nobody", new DreamDuty().lodging(0), -1);
    }

    private static void lodgingTooFewBeds() {
        says("-2: not so many BEDS;");
        DreamDuty x = of("thing a 0;inn i 1 2 0;inn j 1 1 0;" + times(6, "guest", " 0 0 0"));
        due("three beds", x.lodging(7), 3);
        due("four guests", x.lodging(15), -2);
        x.lodge(5, 1);
        due("two beds", x.lodging(3), 2);
        due("three guests", x.lodging(7), -2);
        due("with him", x.lodging(35), 3);
        x.lodge(4, 0);
        x.lodge(3, 0);
        due("no bed", x.lodging(1), -2);
        due("his own", x.lodging(8), 1);
        due("no inns", of("guest g 1 1 1;").lodging(1), -2);
    }

    private static void lodgingAt() {
        says("The INN of the i-th GUEST of the set by it; -2 likewise; NONE (looked at first): no such ones, not so many.");
        DreamDuty x = of("thing a 0;inn i 1 1 0;inn j 2 1 0;" + times(6, "guest", " 0 0 0"));
        due("the first", x.lodgingAt(40, 0), 0);
        due("the second", x.lodgingAt(40, 1), 1);
        for (int i : new int[] {-1, 2, 3, 4, 6}) due("the " + i, x.lodgingAt(40, i), -1);
        for (int w : WILD) {
            due("wild", x.lodgingAt(40, w), -1);
            due("wild", x.lodgingAt(w, 0), -1);
            due("wild", x.lodgingAt(15, w), -1);
        }
        for (int i = 0; i < 4; i++) due("not so many beds", x.lodgingAt(15, i), -2);
        for (int i : new int[] {-1, 4, 5}) due("looked at first", x.lodgingAt(15, i), -1);
        for (int set : new int[] {0, -1, 64, 31, 63}) for (int i = -1; i < 6; i++) due("set " + set, x.lodgingAt(set, i), -1);
        DreamDuty y = of("guest g 1 1 1;");
        due("no inns", y.lodgingAt(1, 0), -2);
        due("no inns, looked at first", y.lodgingAt(1, 1), -1);
    }

    // ---- swaps

    private static void swapsAre(String what, DreamDuty x, int sum, int count, int first) {
        due(what + ": the sum", x.swaps(0), sum);
        due(what + ": how many", x.swaps(1), count);
        due(what + ": the first", x.swaps(2), first);
    }

    private static void swapsOnce() {
        says("SWAPS: two by two GUESTS with DREAMS change them (each once, at most), so that what all OWE together is least:");
        String owes = "owes=units*degree;";
        swapsAre("the greater to the lesser", dreaming(owes, new int[] {1, 5}, 0, 4), 5 + 5, 1, 1);
        swapsAre("as it is", dreaming(owes, new int[] {5, 1}, 0, 4), 10, 0, -2);
        swapsAre("three by three", dreaming(owes, new int[] {0, 1, 2, 3, 4, 5}, 0, 0, 1, 2, 3, 4), 25, 3, 5);
        // three in a ring would owe 1 * 3 + 2 * 2 + 3 * 1
        DreamDuty ring = dreaming("owes=(units-degree)*(units-degree);", new int[] {2, 3, 1}, 0, 1, 2);
        due("ring now", ring.guest(0, 4) + ring.guest(1, 4) + ring.guest(2, 4), 1 + 1 + 4);
        swapsAre("each once at most", ring, 2, 1, 2);
        // who has no dream changes none
        DreamDuty x = dreaming(owes, new int[] {0, 1, 9, 0}, -1, 0, 4, -1);
        due("now", x.guest(1, 4) + x.guest(2, 4), 1 + 45);
        swapsAre("with dreams alone", x, 5 + 9, 1, 12);
        // what all owe, whoever changes: the third owes by the number of alike ones
        DreamDuty y = of("thing a 1;thing b 1;inn i 0 7 0;inn j 0 7 9;gives i b 0;gives j a 0;guest g 0 0 0;guest h 0 0 0;owes=which*cheese;");
        y.lodge(0, 0);
        y.lodge(1, 1);
        y.nights(1);
        swapsAre("by where they are lodged", y, 0, 1, 1);
    }

    private static void swapsFewest() {
        says("of alike ones by the fewest SWAPS;");
        swapsAre("all alike", dreaming("owes=1;", new int[] {1, 2, 3, 4, 5, 6}, 0, 1, 2, 3, 4, 4), 6, 0, -2);
        swapsAre("all alike", dreaming("owes=units;", new int[] {1, 2, 3, 4, 5, 6}, 0, 1, 2, 3, 4, 4), 1 + 2 + 3 + 4 + 5 + 5, 0, -2);
        // the least is 5 + 5 + 1 + 1: one swap does it, two others do it too
        DreamDuty x = dreaming("owes=units*degree;", new int[] {1, 5, 1, 1}, 0, 4, 0, 0);
        swapsAre("one, not two", x, 5 + 5 + 1 + 1, 1, 1);
        // two by one another: 10 and 32 lead to the same as one of 12 and none
        DreamDuty y = dreaming("owes=if degree<units then 9 else 0;", new int[] {1, 2, 2, 1}, 0, 1, 0, 1);
        swapsAre("2 and 3", y, 0, 1, 23);
    }

    private static void swapsFirst() {
        says("then the first by number (10 * the lesser GUEST + the other one, the least of them first, then the next); the sum.");
        String owes = "owes=units*degree;";
        swapsAre("02 and 13 ahead of 03 and 12", dreaming(owes, new int[] {1, 1, 5, 5}, 0, 0, 4, 4), 20, 2, 2);
        swapsAre("one of 02, 12", dreaming(owes, new int[] {1, 1, 5}, 0, 0, 4), 1 + 5 + 5, 1, 2);
        swapsAre("one of 01, 02", dreaming(owes, new int[] {5, 1, 1}, 4, 0, 0), 5 + 5 + 1, 1, 1);
        swapsAre("the last two", dreaming(owes, new int[] {0, 0, 0, 0, 1, 5}, -1, -1, -1, -1, 0, 4), 10, 1, 45);
        swapsAre("05 ahead of 14", dreaming(owes, new int[] {1, 1, 3, 3, 5, 5}, 0, 0, 2, 2, 4, 4), 10 + 18 + 10, 2, 4);
        swapsAre("34 and 25: the least of them is 25", dreaming(owes, new int[] {0, 0, 1, 2, 6, 7}, -1, -1, 0, 1, 3, 4), 5 + 8 + 12 + 7, 2, 25);
    }

    private static void swapsTwins() {
        says("so that what all OWE together is least:");
        // of twins only who owes more pays: both dear dreams had better be theirs
        DreamDuty x = dreaming("owes=10*units;twins ga gb;", new int[4], 0, 4, 4, 1);
        due("now", x.guest(0, 4) + x.guest(1, 4) + x.guest(2, 4) + x.guest(3, 4), 50 + 50 + 20);
        swapsAre("both dear ones to the twins", x, 50 + 10 + 20, 1, 2);
        DreamDuty y = dreaming("owes=10*units;twins ga gb;", new int[4], 0, 1, 4, 3);
        swapsAre("two swaps", y, 50 + 10 + 20, 2, 2);
    }

    private static void swapsAnswers() {
        says("SWAPS: what 0 the sum, 1 how many, 2 the first of them (-2: none); NONE for others.");
        DreamDuty x = dreaming("", new int[6], -1);
        swapsAre("nobody dreams", x, 0, 0, -2);
        x.lodge(5, 4);
        x.nights(1);
        swapsAre("one dreams", x, 25, 0, -2);
        swapsAre("a new object", new DreamDuty(), 0, 0, -2);
        for (int what : new int[] {-1, 3, 4, 10}) due("what " + what, x.swaps(what), -1);
        for (int w : WILD) due("wild", x.swaps(w), -1);
        // another call's best is none of this one's
        DreamDuty y = dreaming("owes=units*degree;", new int[] {1, 5}, 0, 4);
        swapsAre("one swap", y, 10, 1, 1);
        y.swap(0, 1);
        swapsAre("none", y, 10, 0, -2);
    }

    // ---- declare

    private static void rests(String what, DreamDuty x, int... sets) {
        due(what + ": how many", x.declares(-1), sets.length);
        for (int i = 0; i < sets.length; i++) due(what + ": rest " + i, x.declares(i), sets[i]);
        due(what + ": not so many", x.declares(sets.length), -1);
    }

    private static DreamDuty owing(int dreamers, String more) {
        DreamDuty x = of("thing a 1;inn i 0 7 0;" + times(6, "guest", " 0 0 0") + more);
        for (int g = 0; g < 6; g++) if ((dreamers >> g & 1) == 1) x.lodge(g, 0);
        x.nights(1);
        return x;
    }

    private static void declareHides() {
        says("DECLARE: sets of GUESTS with DREAMS who hide theirs, the others DECLARE:");
        rests("nobody dreams", owing(0, ""), 0);
        rests("the first: hiding is for nothing", owing(1, "shows=0;"), 1);
        rests("the last", owing(32, "shows=0;"), 32);
        rests("hiding costs more", owing(32, "shows=100;"), 0);
        DreamDuty x = owing(63, "owes=9;shows=0;");
        rests("all", x, 63);
        for (int g = 0; g < 6; g++) x.deposit(g, false);
        rests("all on deposit", x, 0);
        x.deposit(3, true);
        rests("who has one", x, 8);
        rests("a new object", new DreamDuty(), 0);
    }

    private static void declareHundredths() {
        says("who hides pays, in the mean, FINE times what he OWES by SHOWS hundredths,");
        int[][] cases = {{1, 1, 99, 1}, {1, 1, 100, -1}, {2, 1, 50, -1}, {2, 1, 49, 1}, {2, 1, 51, 0}, {9, 1, 11, 1}, {9, 1, 12, 0}, {3, 1, 33, 1}, {3, 1, 34, 0},
            {2, 999, 50, -1}, {2, 999, 51, 0}, {9, 999, 11, 1}, {9, 999, 12, 0}, {9, 999, 100, 0}, {1, 999, 99, 1}, {5, 0, 100, -1}};
        for (int[] c : cases) {
            DreamDuty x = owing(4, "fine " + c[0] + ";owes=" + c[1] + ";shows=" + c[2] + ";");
            String what = "fine " + c[0] + ", owes " + c[1] + ", shows " + c[2];
            if (c[3] < 0) rests(what, x, 0, 4);
            else rests(what, x, 4 * c[3]);
        }
        // shows is held to 0 .. 100
        rests("shows 200", owing(4, "fine 1;shows=200;"), 0, 4);
        rests("shows -5", owing(4, "shows=0-5;"), 4);
        rests("shows by 0", owing(4, "shows=1/0;"), 4);
    }

    private static void declareRests() {
        says("and (the others pay their own) 1 more for each other one who hides: RESTS: sets by which nobody, by himself, doing the other thing, paid less.");
        // hiding is for nothing: they hide till one more would make it dear
        rests("1 owed: one hides, a second is alike", owing(7, "shows=0;"), 1, 2, 3, 4, 5, 6);
        rests("2 owed: two hide, a third is alike", owing(7, "shows=0;owes=2;"), 3, 5, 6, 7);
        rests("3 owed: all three", owing(7, "shows=0;owes=3;"), 7);
        rests("0 owed: one hides at most, alike for him", owing(7, "shows=0;owes=0;"), 0, 1, 2, 4);
        rests("0 owed", owing(63, "owes=0;"), 0, 1, 2, 4, 8, 16, 32);
        rests("5 owed: all six", owing(63, "shows=0;owes=5;"), 31, 47, 55, 59, 61, 62, 63);
        // 4 owed, 2 by hiding: one more may hide, a third is alike, a fourth is dear
        rests("a third is alike", owing(15, "shows=25;owes=4;"), 3, 5, 6, 7, 9, 10, 11, 12, 13, 14);
        // by hundredths: 3 owed, 1.98 by hiding, one more is 2.98, two more are 3.98
        rests("2.98", owing(7, "shows=33;owes=3;"), 3, 5, 6);
        rests("3", owing(7, "fine 1;shows=100;owes=3;"), 0, 1, 2, 4);
        // of twins who owes nothing may as well hide, if nobody else does
        rests("twins", owing(3, "twins ga gb;shows=100;owes=5;"), 0, 2);
    }

    private static void declareAnswers() {
        says("DECLARE: RESTS: how many (i NONE), else the i-th (bits, the least first); NONE: not so many, i below NONE.");
        DreamDuty x = owing(63, "owes=0;");
        due("how many", x.declares(-1), 7);
        due("the first", x.declares(0), 0);
        due("the last", x.declares(6), 32);
        for (int i : new int[] {7, 8, 63, 64, -2, -3}) due("the " + i, x.declares(i), -1);
        for (int w : WILD) due("wild", x.declares(w), -1);
        DreamDuty y = owing(1, "shows=0;");
        due("one", y.declares(-1), 1);
        due("one", y.declares(1), -1);
    }

    // ---- posts

    private static void postsFewest() {
        says("MAN: the fewest POSTS that watch all INNS where somebody is lodged; of alike ones the least bits.");
        DreamDuty x = of(times(5, "inn", " 0 1 0") + times(6, "guest", " 0 0 0") + "post p ia ib;post q ib ic;post r ic id ie;post s ia;post t ie id;post u ib id;");
        int[][] steps = {{0, 0, 1, 1}, {1, 1, 1, 1}, {2, 2, 2, 3}, {3, 3, 2, 5}, {4, 4, 2, 5}};
        due("nobody", x.posts(0), 0);
        due("nobody", x.posts(1), 0);
        for (int[] s : steps) {
            x.lodge(s[0], s[1]);
            due("how many", x.posts(0), s[2]);
            due("which", x.posts(1), s[3]);
        }
        x.lodge(0, -1);
        due("fewest, not least bits", x.posts(0), 2);
        due("01 ahead of 12", x.posts(1), 5);
        x.lodge(1, -1);
        due("one", x.posts(0), 1);
        due("one", x.posts(1), 4);
        // one that has more bits is better than two that have less
        DreamDuty z = of(times(2, "inn", " 0 1 0") + times(2, "guest", " 0 0 0") + "post p ia;post q ib;post r ia ib;post s ia ib;");
        z.lodge(0, 0);
        z.lodge(1, 1);
        due("fewest", z.posts(0), 1);
        due("fewest, of those least bits", z.posts(1), 4);
        // all six but one
        DreamDuty y = of(times(5, "inn", " 0 7 0") + times(6, "guest", " 0 0 0") + "post p;post q ib;post r ia;post s ic;post t id;post u ie;");
        for (int g = 0; g < 5; g++) y.lodge(g, g);
        due("five", y.posts(0), 5);
        due("five", y.posts(1), 62);
        for (int g = 0; g < 4; g++) y.lodge(g, 4);
        due("the last one", y.posts(0), 1);
        due("the last one", y.posts(1), 32);
    }

    private static void postsAnswers() {
        says("MAN: what 0 how many, 1 which (bits); -2: by none; NONE for others.");
        DreamDuty x = of("inn i 0 1 0;inn j 0 1 0;guest g 0 0 0;guest h 0 0 0;post p;post q i;");
        x.lodge(0, 0);
        due("one", x.posts(0), 1);
        due("one", x.posts(1), 2);
        x.lodge(1, 1);
        due("one inn is not watched", x.posts(0), -2);
        due("one inn is not watched", x.posts(1), -2);
        for (int what : new int[] {-1, 2, 3}) due("what " + what, x.posts(what), -1);
        for (int w : WILD) due("wild", x.posts(w), -1);
        DreamDuty y = of("inn i 0 1 0;guest g 0 0 0;");
        due("no posts, nobody lodged", y.posts(0), 0);
        due("no posts, nobody lodged", y.posts(1), 0);
        y.lodge(0, 0);
        due("no posts", y.posts(0), -2);
        due("no posts", y.posts(1), -2);
    }

    // ---- year and poor by

    private static final String DICE = "thing a 3;inn i 1 7 0;guest ga 50 50 0;guest gb 7 0 0;guest gc 100 10 0;shows=50;";
    private static final int[] COINS = {50, 7, 100};
    private static final int[] HONEST = {50, 0, 10};

    // What a guest of that border has behind so many nights and mornings, by the lots alone.
    private static int has(int guest, int seed, int from, int nights) {
        int coins = COINS[guest] - from;
        for (int night = from + 1; night <= from + nights; night++) {
            coins--;
            if (Oracle.lot(100, seed, 64 * night + 16 + guest) < HONEST[guest]) coins -= 3;
            else if (Oracle.lot(100, seed, 64 * night + 32 + guest) < 50) coins -= 6;
        }
        return coins;
    }

    private static DreamDuty dice(int seed, int nights) {
        DreamDuty x = of(DICE + "seed " + seed + ";");
        for (int g = 0; g < 3; g++) x.lodge(g, 0);
        x.nights(nights);
        return x;
    }

    private static void yearBySeeds() {
        says("YEAR by s SEEDS (1 .. 20) from the text's SEED on: COINS of a GUEST behind n (0 .. 30) NIGHTS with a MORNING behind each,"
                + " from now on, in all of them together.");
        for (int seed : new int[] {0, 5, 9980, 9999}) {
            for (int from : new int[] {0, 3}) {
                DreamDuty x = dice(seed, from);
                for (int g = 0; g < 3; g++) {
                    for (int n : new int[] {0, 1, 2, 29, 30}) {
                        for (int s : new int[] {1, 2, 19, 20}) {
                            int all = 0;
                            for (int k = 0; k < s; k++) all += has(g, seed + k, from, n);
                            due("year " + g + " " + n + " " + s, x.year(g, n, s), all);
                        }
                    }
                }
            }
        }
        // a dream that he has now is gone by the first morning: who is nowhere pays for it
        DreamDuty x = of(DICE.replace("shows=50", "shows=100"));
        x.lodge(1, 0);
        x.nights(1);
        x.lodge(1, -1);
        due("now", x.year(1, 0, 3), 3 * 6);
        due("behind one", x.year(1, 1, 3), 0);
        due("behind thirty", x.year(1, 30, 3), 0);
    }

    private static void yearNone() {
        says("YEAR; -100000: no such ones.");
        DreamDuty x = dice(0, 0);
        due("least", x.year(2, 0, 1), 100);
        due("most", x.year(2, 0, 20), 2000);
        for (int g : new int[] {-1, 3, 6}) due("guest " + g, x.year(g, 1, 1), -100000);
        for (int n : new int[] {-1, 31, 32}) due("nights " + n, x.year(0, n, 1), -100000);
        for (int s : new int[] {-1, 0, 21, 22}) due("seeds " + s, x.year(0, 1, s), -100000);
        for (int w : WILD) {
            due("wild", x.year(w, 1, 1), -100000);
            due("wild", x.year(0, w, 1), -100000);
            due("wild", x.year(0, 1, w), -100000);
        }
        due("nobody", new DreamDuty().year(0, 0, 1), -100000);
    }

    private static void poorBy() {
        says("POOR BY: behind how many such NIGHTS (0 .. 100) his COINS are below 0 for the first time.");
        int[] coins = {0, 1, 2, 98, 99, 100, 101, 999};
        int[] by = {1, 2, 3, 99, 100, -2, -2, -2};
        for (int i = 0; i < coins.length; i++) {
            DreamDuty x = of("thing a 0;inn i 1 1 0;guest g " + coins[i] + " 0 0;");
            x.lodge(0, 0);
            due("coins " + coins[i], x.poorBy(0), by[i]);
            x.nights(1);
            due("from now on, coins " + coins[i], x.poorBy(0), coins[i] == 100 ? 100 : by[i] < 0 ? -2 : by[i] - 1);
            due("nothing happens", x.guest(0, 0), coins[i] - 1);
        }
        // below 0 already; 0 is not below
        DreamDuty x = of("thing a 0;inn i 5 1 0;guest g 9 0 0;");
        x.lodge(0, 0);
        x.nights(2);
        due("already", x.poorBy(0), 0);
        x.lodge(0, -1);
        due("already, and nowhere", x.poorBy(0), 0);
        due("0 is not below", of("guest g 0 0 0;").poorBy(0), -2);
        // mornings take their part, by the text's seed
        for (int seed : new int[] {0, 1, 77, 9999}) {
            DreamDuty y = dice(seed, 0);
            for (int g = 0; g < 3; g++) {
                int n = 0;
                while (has(g, seed, 0, n) >= 0) n++;
                due("seed " + seed + ", guest " + g, y.poorBy(g), n);
                y.year(g, 30, 20);
                due("behind a year by other seeds", y.poorBy(g), n);
            }
        }
    }

    private static void poorByNone() {
        says("POOR BY; -2: not; NONE: no such one.");
        DreamDuty x = dice(0, 0);
        for (int g = 0; g < 3; g++) x.lodge(g, -1);
        for (int g = 0; g < 3; g++) due("not", x.poorBy(g), -2);
        for (int g : new int[] {-1, 3, 6}) due("guest " + g, x.poorBy(g), -1);
        for (int w : WILD) due("wild", x.poorBy(w), -1);
        due("nobody", new DreamDuty().poorBy(0), -1);
    }

    // ---- owes and shows

    private static void owes() {
        says("What a GUEST would OWE for a THING and UNITS (0 .. 99), as if he dreamt it now where he is lodged (nowhere: not TWICE),"
                + " his own DREAM, TWINS not looked at;");
        DreamDuty x = of("thing a 3;thing b 4;inn i 0 7 5;gives i b 0;guest g 0 0 0;guest h 0 0 0;guest k 0 0 0;twins g h;owes=100*twice+10*alike+units+200*(cheese/5);");
        due("nowhere", x.owes(0, 0, 0), 0);
        due("the most units", x.owes(0, 0, 99), 99);
        x.lodge(0, 0);
        x.lodge(1, 0);
        x.nights(1);
        due("by another one", x.owes(0, 0, 7), 200 + 100 + 10 + 7);
        due("by himself", x.owes(1, 0, 7), 200 + 10 + 7);
        due("another thing", x.owes(0, 1, 7), 200 + 7);
        due("nowhere: not twice", x.owes(2, 0, 7), 20 + 7);
        x.lodge(2, 0);
        due("there", x.owes(2, 0, 7), 200 + 100 + 20 + 7);
        x.lodge(0, -1);
        due("not any more", x.owes(0, 0, 7), 10 + 7);
        // though an inn gives it not
        due("what no inn gives", x.owes(1, 1, 99), 200 + 99);
        due("held", of("thing a 99;guest g 1 1 1;").owes(0, 0, 99), 999);
    }

    private static void owesNone() {
        says("TWINS not looked at; NONE: no such ones.");
        DreamDuty x = of(times(7, "thing", " 1") + times(6, "guest", " 0 0 0"));
        due("the last ones", x.owes(5, 6, 99), 99);
        for (int g : new int[] {-1, 6, 7}) due("guest " + g, x.owes(g, 0, 1), -1);
        for (int t : new int[] {-1, 7, 8}) due("thing " + t, x.owes(0, t, 1), -1);
        for (int u : new int[] {-1, 100, 101}) due("units " + u, x.owes(0, 0, u), -1);
        for (int w : WILD) {
            due("wild", x.owes(w, 0, 1), -1);
            due("wild", x.owes(0, w, 1), -1);
            due("wild", x.owes(0, 0, w), -1);
        }
        due("no things", of("guest g 1 1 1;").owes(0, 0, 0), -1);
        due("no guests", of("thing a 1;").owes(0, 0, 0), -1);
    }

    private static void shows() {
        says("What SHOWS tells now for a GUEST; -2: no DREAM; NONE: no such one.");
        DreamDuty x = owing(31, "shows=40+10*alike;");
        for (int g = 0; g < 5; g++) due("now", x.shows(g), 80);
        due("no dream", x.shows(5), -2);
        x.deposit(4, false);
        due("now", x.shows(0), 70);
        due("on deposit is none", x.shows(4), -2);
        x.morning();
        for (int g = 0; g < 6; g++) due("behind the morning", x.shows(g), -2);
        for (int g : new int[] {-1, 6, 7}) due("guest " + g, x.shows(g), -1);
        for (int w : WILD) due("wild", x.shows(w), -1);
        due("nobody", new DreamDuty().shows(0), -1);
        // held, as a morning holds it: so it is never taken for -2 or NONE
        String[] laws = {"0-2", "0-1", "0", "100", "101", "2048*1024*1024"};
        int[] tells = {0, 0, 0, 100, 100, 0};
        for (int i = 0; i < laws.length; i++) due("shows " + laws[i], owing(1, "shows=" + laws[i] + ";").shows(0), tells[i]);
    }
}
