/** A test for each sentence of the document's part IV., what is told, and of promises 26 to 33; and for the 512 calls of an object. */
public final class ToldBoundaryTests extends Check {
    private static final String SEVEN = times(7, "thing", " 1") + times(5, "inn", " 0 7 0") + times(6, "guest", " 9 9 9");

    public static void main(String[] args) {
        twentyTold();
        known();
        fromAllOfThem();
        likeliestOfShares();
        likeliestOfAlikeOnes();
        whoseInns();
        tell();
        forget();
        from();
        likeliest();
        whose();
        hold();
        holdRefused();
        restore();
        restoreRefused();
        count();
        countOthers();
        calls512();
        end();
    }

    // ---- what is told

    private static void twentyTold() {
        says("TOLD: that somebody dreamt of a THING, 20 at most, numbered from 0 on;");
        DreamDuty x = of(SEVEN);
        for (int n = 0; n < 20; n++) {
            due("told", x.count(10), n);
            due("tell", x.tell(n % 7), n);
        }
        for (int thing = 0; thing < 7; thing++) due("a 21st", x.tell(thing), -1);
        due("told", x.count(10), 20);
        due("forget", x.forget(), 20);
        due("from 0 on again", x.tell(6), 0);
    }

    private static void known() {
        says("KNOWN by k: the first k.");
        // the inns give a and b, a and c, b and c, all three, none
        DreamDuty x = of("thing a 1;thing b 1;thing c 1;" + times(5, "inn", " 0 7 0")
                + "gives ia c 0;gives ib b 0;gives ic a 0;gives ie a 0;gives ie b 0;gives ie c 0;");
        x.tell(2);
        x.tell(0);
        x.tell(2);
        x.tell(1);
        int[] from = {31, 14, 10, 10, 8};
        for (int k = 0; k <= 4; k++) due("from " + k, x.from(k), from[k]);
        x.forget();
        x.tell(1);
        due("what was forgotten is not known", x.from(1), 13);
        due("not told yet", x.from(2), -1);
    }

    private static void fromAllOfThem() {
        says("FROM: INNS that give all of them (WEIGHT above 0): bits;");
        DreamDuty x = of(SEVEN + "gives ia ta 0;gives ie tg 0;gives ib ta 9;gives ib tg 1;");
        due("none is told: all", x.from(0), 31);
        x.tell(0);
        due("first thing", x.from(1), 30);
        x.tell(6);
        due("and last", x.from(2), 14);
        for (int n = 2; n < 20; n++) x.tell(n % 5 + 1);
        for (int k = 2; k <= 20; k++) due("from " + k, x.from(k), 14);
        // the twentieth counts as the first does
        DreamDuty y = of(SEVEN + "gives ib tc 0;");
        for (int n = 0; n < 19; n++) y.tell(0);
        y.tell(2);
        due("nineteen", y.from(19), 31);
        due("twenty", y.from(20), 29);
        due("no inns", of("thing a 1;").from(0), 0);
        // weights of 9 in twenty factors are above 0 still
        StringBuilder s = new StringBuilder(SEVEN);
        for (char t = 'a'; t < 'h'; t++) s.append("gives ia t").append(t).append(" 9;gives ib t").append(t).append(" 8;");
        DreamDuty z = of(s + "");
        for (int n = 0; n < 20; n++) z.tell(n % 7);
        for (int k = 0; k <= 20; k++) due("nines and eights, " + k, z.from(k), 31);
    }

    private static void likeliestOfShares() {
        says("LIKELIEST: that of them by which the product of shares of WEIGHTS is greatest;");
        String world = "thing a 1;thing b 1;thing c 1;inn i 0 7 0;inn j 0 7 0;inn k 0 7 0;";
        // a: 3/12, 2/4, 1/3; b: 4/12, 1/4, 1/3; c: 5/12, 1/4, 1/3
        DreamDuty x = of(world + "gives i a 3;gives i b 4;gives i c 5;gives j a 2;");
        x.tell(0);
        due("2/4, not 3/12", x.likeliest(1), 1);
        x.tell(1);
        due("1/8, 1/9, 1/12", x.likeliest(2), 1);
        x.tell(1);
        due("1/27, 1/32, 1/36", x.likeliest(3), 2);
        x.tell(2);
        due("1/81, 1/86, 1/128", x.likeliest(4), 2);
        x.tell(2);
        due("1/207, 1/243, 1/512", x.likeliest(5), 0);
        x.tell(1);
        due("1/622, 1/729", x.likeliest(6), 0);
        // each told thing counts as often as it is told
        DreamDuty y = of(world + "gives i c 0;gives j a 3;gives j c 0;");
        y.tell(0);
        y.tell(1);
        due("1/4 ahead of 3/16", y.likeliest(2), 0);
        y.tell(0);
        due("9/64 ahead of 1/8", y.likeliest(3), 1);
        // only of them that give all
        DreamDuty z = of(world + "gives i a 9;gives i b 0;gives k c 0;");
        z.tell(0);
        z.tell(1);
        due("1/4 ahead of 1/9, and of none", z.likeliest(2), 2);
        z.tell(2);
        due("one gives all", z.likeliest(3), 1);
        // products of six of the greatest numbers
        StringBuilder s = new StringBuilder(SEVEN);
        for (char inn = 'a'; inn < 'f'; inn++) for (char t = 'a'; t < 'h'; t++) s.append("gives i").append(inn).append(" t").append(t).append(" 9;");
        for (int n = 0; n < 5; n++) {
            DreamDuty w = of(s + "gives i" + (char) ('a' + n) + " tg 8;");
            for (int k = 1; k <= 6; k++) {
                w.tell(k % 6);
                due("9/62 ahead of 9/63, " + k, w.likeliest(k), n);
            }
        }
    }

    private static void likeliestOfAlikeOnes() {
        says("is greatest; of alike ones the first.");
        DreamDuty x = of(SEVEN);
        due("none is told", x.likeliest(0), 0);
        for (int k = 1; k <= 6; k++) {
            x.tell(k);
            due("alike", x.likeliest(k), 0);
        }
        DreamDuty y = of("thing a 1;thing b 1;thing c 1;inn i 0 1 0;inn j 0 1 0;inn k 0 1 0;gives i a 0;gives j a 1;gives j b 2;gives j c 3;gives k a 2;gives k b 4;gives k c 6;");
        y.tell(0);
        due("1/6 and 2/12", y.likeliest(1), 1);
        y.tell(1);
        y.tell(2);
        due("alike in three", y.likeliest(3), 1);
    }

    private static void whoseInns() {
        says("WHOSE: GUESTS lodged at an INN that is among FROM.");
        DreamDuty x = of(SEVEN + "gives ia ta 0;gives ie tg 0;");
        due("nobody is lodged", x.whose(0), 0);
        for (int g = 0; g < 5; g++) x.lodge(g, g);
        due("none is told: all who are lodged", x.whose(0), 31);
        x.tell(0);
        due("not at the first", x.whose(1), 30);
        x.tell(6);
        due("nor at the last", x.whose(2), 14);
        x.lodge(5, 1);
        x.lodge(0, 2);
        due("two of them in one", x.whose(2), 1 + 2 + 4 + 8 + 32);
        x.lodge(5, -1);
        x.lodge(1, 4);
        due("who has gone", x.whose(2), 1 + 4 + 8);
        // whatever they dreamt
        x.nights(1);
        due("whatever they dreamt", x.whose(2), 1 + 4 + 8);
    }

    // ---- promises 26 to 30

    private static void tell() {
        says("It is TOLD: its number; NONE, and nothing happens: 20 are there, no such THING.");
        DreamDuty x = of(SEVEN);
        for (int thing : new int[] {-1, 7, 8, 20}) still(x, () -> due("thing " + thing, x.tell(thing), -1));
        for (int w : WILD) still(x, () -> due("wild", x.tell(w), -1));
        for (int n = 0; n < 20; n++) due("tell", x.tell(6 - n % 7), n);
        still(x, () -> due("20 are there", x.tell(0), -1));
        still(x, () -> due("20 are there, and no such thing", x.tell(7), -1));
        due("no things", of("inn i 1 1 1;").tell(0), -1);
        due("nothing is told", new DreamDuty().tell(0), -1);
        // nothing but that happens, and it is no thing that can be undone
        DreamDuty y = of(SEVEN);
        y.lodge(0, 0);
        y.nights(1);
        y.tell(3);
        due("undone", y.count(9), 2);
        y.undo();
        due("told yet", y.count(10), 1);
    }

    private static void forget() {
        says("All that was TOLD is forgotten: how many there were.");
        DreamDuty x = of(SEVEN);
        due("none", x.forget(), 0);
        for (int n = 1; n <= 20; n++) {
            for (int k = 0; k < n; k++) x.tell(k % 7);
            due("forget", x.forget(), n);
            due("told", x.count(10), 0);
        }
        due("none", x.forget(), 0);
        due("from none", x.from(0), 31);
        due("from one", x.from(1), -1);
        due("a new object", new DreamDuty().forget(), 0);
    }

    private static void from() {
        says("FROM (bits); NONE: no such k.");
        DreamDuty x = of(SEVEN);
        for (int told = 0; told <= 20; told++) {
            due("all that is told", x.from(told), 31);
            due("one more", x.from(told + 1), -1);
            due("below", x.from(-1), -1);
            x.tell(0);
        }
        due("all twenty", x.from(20), 31);
        due("more than can be", x.from(21), -1);
        for (int w : WILD) due("wild", x.from(w), -1);
        due("a new object", new DreamDuty().from(0), 0);
        due("a new object", new DreamDuty().from(1), -1);
    }

    private static void likeliest() {
        says("LIKELIEST; -2: none; NONE: no such k (6 at most).");
        DreamDuty x = of(SEVEN + "gives ia ta 0;gives ib ta 0;gives ic ta 0;gives id ta 0;gives ie ta 0;");
        for (int told = 0; told < 6; told++) {
            due("all that is told", x.likeliest(told), 0);
            due("one more", x.likeliest(told + 1), -1);
            x.tell(told + 1);
        }
        due("six", x.likeliest(6), 0);
        x.tell(0);
        due("seven are told, six at most", x.likeliest(7), -1);
        due("six", x.likeliest(6), 0);
        for (int n = 7; n < 20; n++) x.tell(0);
        for (int k : new int[] {-1, 7, 8, 19, 20, 21}) due("k " + k, x.likeliest(k), -1);
        for (int w : WILD) due("wild", x.likeliest(w), -1);
        x.forget();
        x.tell(0);
        due("none gives it", x.likeliest(1), -2);
        due("none of none", x.likeliest(0), 0);
        due("no inns", of("thing a 1;").likeliest(0), -2);
        due("a new object", new DreamDuty().likeliest(0), -2);
        due("a new object", new DreamDuty().likeliest(1), -1);
    }

    private static void whose() {
        says("WHOSE (bits); NONE: no such k.");
        DreamDuty x = of(SEVEN);
        for (int g = 0; g < 6; g++) x.lodge(g, 4 - g % 5);
        for (int told = 0; told <= 20; told++) {
            due("all that is told", x.whose(told), 63);
            due("one more", x.whose(told + 1), -1);
            x.tell(0);
        }
        due("below", x.whose(-1), -1);
        for (int w : WILD) due("wild", x.whose(w), -1);
        due("a new object", new DreamDuty().whose(0), 0);
        due("a new object", new DreamDuty().whose(1), -1);
        DreamDuty y = of("thing a 1;inn i 0 1 0;gives i a 0;guest g 0 0 0;");
        y.lodge(0, 0);
        y.tell(0);
        due("nobody", y.whose(1), 0);
    }

    // ---- promises 31 to 33

    private static final String WORLD = "thing a 3;thing b 4;inn i 2 3 1;inn j 9 1 0;guest g 9 50 1;guest h 20 0 2;guest k 5 100 3;"
            + "much=2+night;owes=tariff*units+twice;shows=70;fine 4;seed 321;";

    private static DreamDuty busy() {
        DreamDuty x = of(WORLD);
        for (int g = 0; g < 3; g++) x.lodge(g, 0);
        x.nights(2);
        x.deposit(0, false);
        x.morning();
        x.nights(1);
        x.deposit(1, false);
        x.lodge(2, 1);
        x.nights(1);
        return x;
    }

    // What a slot holds: all but the tape, what can be undone, what is told, and the slots.
    private static String goesOn(DreamDuty x) {
        return x.count(4) + " " + x.count(5) + " " + x.count(6) + " " + x.count(7) + " " + people(x);
    }

    private static void hold() {
        says("All that goes on (not what is TOLD, nor the tape) is held in a SLOT (0 .. 2): true;");
        DreamDuty x = busy();
        // the same border by a slot of its own, where nothing else has been
        DreamDuty y = busy();
        y.hold(1);
        y.restore(1);
        String held = goesOn(y);
        for (int slot = 0; slot < 3; slot++) due("hold", x.hold(slot), true);
        x.tell(1);
        x.feed(0, 0, 0, 0, 0);
        x.swap(0, 1);
        x.morning();
        x.deposit(0, true);
        x.deposit(1, true);
        x.morning();
        x.lodge(2, -1);
        x.nights(7);
        x.morning();
        x.deposit(2, false);
        for (int slot = 0; slot < 3; slot++) {
            x.nights(1);
            x.lodge(1, slot % 2 == 0 ? -1 : 0);
            due("restore", x.restore(slot), true);
            due("told", x.count(10), 1);
            due("tape", x.count(8), 20);
            due("undone", x.count(9), 0);
            due("held", goesOn(x), held);
        }
        // what was on deposit, and last dreamt, goes on as well
        x.morning();
        y.morning();
        for (int g = 0; g < 2; g++) {
            due("on deposit", x.deposit(g, true), y.deposit(g, true));
            due("units", x.guest(g, 3), y.guest(g, 3));
            due("owes", x.guest(g, 4), y.guest(g, 4));
        }
        x.nights(3);
        y.nights(3);
        for (int g = 0; g < 3; g++) for (int what = 0; what < 8; what++) due("guest " + g, x.guest(g, what), y.guest(g, what));
        // it is no thing done, and nothing but the slot is another
        DreamDuty z = busy();
        int done = z.count(9);
        z.hold(0);
        due("things done", z.count(9), done);
        z.undo();
        due("undone", z.count(4), 3);
        z.hold(0);
        z.nights(5);
        due("over what was held", z.restore(0), true);
        due("night", z.count(4), 3);
    }

    private static void holdRefused() {
        says("false: no such one.");
        DreamDuty x = busy();
        for (int slot : new int[] {-1, 3, 4}) still(x, () -> due("slot " + slot, x.hold(slot), false));
        for (int w : WILD) still(x, () -> due("slot " + w, x.hold(w), false));
        due("slots", x.count(11), 0);
        due("a new object", new DreamDuty().hold(0), true);
    }

    private static void restore() {
        says("It goes on from what a SLOT holds (that stays there; nothing can be undone then): true;");
        DreamDuty x = of(WORLD);
        x.hold(0);
        x.lodge(0, 0);
        x.nights(1);
        x.hold(1);
        x.nights(1);
        x.hold(2);
        int[] nights = {0, 1, 2};
        for (int again = 0; again < 3; again++) {
            for (int slot : new int[] {2, 0, 1}) {
                due("restore", x.restore(slot), true);
                due("night", x.count(4), nights[slot]);
                due("lodged", x.guest(0, 1), slot == 0 ? -2 : 0);
                due("coins", x.guest(0, 0), 9 - 2 * slot);
                due("slots", x.count(11), 3);
                due("things that can be undone", x.count(9), 0);
                due("undo", x.undo(), false);
                x.nights(4);
                x.lodge(1, 1);
                due("things that can be undone", x.count(9), 2);
            }
        }
        due("undo", x.undo(), true);
        due("undo", x.undo(), true);
        due("undo", x.undo(), false);
        due("to what was held", x.count(4), 1);
        // twice the same
        due("restore", x.restore(1), true);
        due("restore", x.restore(1), true);
        due("night", x.count(4), 1);
        // a new object's
        DreamDuty y = new DreamDuty();
        due("hold", y.hold(2), true);
        y.nights(3);
        due("restore", y.restore(2), true);
        due("night", y.count(4), 0);
    }

    private static void restoreRefused() {
        says("false, and nothing happens: no such one, nothing is held.");
        DreamDuty x = busy();
        for (int slot = -1; slot <= 3; slot++) {
            int s = slot;
            still(x, () -> due("slot " + s, x.restore(s), false));
        }
        x.hold(1);
        for (int slot : new int[] {-1, 0, 2, 3, 4}) still(x, () -> due("slot " + slot, x.restore(slot), false));
        for (int w : WILD) still(x, () -> due("slot " + w, x.restore(w), false));
        due("what can be undone yet", x.undo(), true);
        due("held", x.restore(1), true);
        put(x, WORLD);
        x.read();
        for (int slot = 0; slot < 3; slot++) due("nothing held behind a text", x.restore(slot), false);
    }

    private static void count() {
        says("0 THINGS, 1 INNS, 2 GUESTS, 3 POSTS, 4 the night, 5 all that was paid at the customs, 6 all that was paid to INNS,"
                + " 7 GUESTS with DREAMS (bits), 8 bytes on the tape, 9 things that can be undone, 10 TOLD ones,"
                + " 11 SLOTS that hold something, 12 FINE.");
        DreamDuty x = of(SEVEN.replace(" 9 9 9", " 9 100 9").replace(" 0 7 0", " 3 7 0") + times(6, "post", "") + "fine 9;owes=10;");
        int[] first = {7, 5, 6, 6, 0, 0, 0, 0, 0, 0, 0, 0, 9};
        for (int what = 0; what < 13; what++) due("count " + what, x.count(what), first[what]);
        for (int g = 0; g < 6; g++) x.lodge(g, 4);
        x.nights(2);
        due("to inns", x.count(6), 6 * 2 * 3);
        due("all dream", x.count(7), 63);
        for (int g = 0; g < 6; g++) {
            x.deposit(g, false);
            due("less by one", x.count(7), 63 - (2 << g) + 1);
        }
        for (int g = 5; g >= 0; g--) x.deposit(g, true);
        x.morning();
        due("customs", x.count(5), 60);
        due("none dreams", x.count(7), 0);
        x.nights(1);
        x.morning();
        due("customs", x.count(5), 120);
        due("to inns", x.count(6), 54);
        due("nights", x.count(4), 3);
        for (int slot : new int[] {2, 0, 2, 1}) x.hold(slot);
        due("slots, not holds", x.count(11), 3);
        for (int n = 0; n < 5; n++) x.tell(n);
        due("told", x.count(10), 5);
        x.feed(0, 0, 0, 0, 0);
        x.back(1);
        due("bytes", x.count(8), 19);
        int done = x.count(9);
        due("things that can be undone", done, 6 + 1 + 12 + 1 + 2);
        x.undo();
        due("one less", x.count(9), done - 1);
        due("customs undone", x.count(5), 60);
        DreamDuty y = of(SEVEN);
        y.hold(2);
        due("one slot, not its bit", y.count(11), 1);
        due("fine not told", y.count(12), 2);
    }

    private static void countOthers() {
        says("12 FINE. NONE for others.");
        DreamDuty x = busy();
        for (int what : new int[] {-1, 13, 14, 100}) due("what " + what, x.count(what), -1);
        for (int w : WILD) due("wild", x.count(w), -1);
    }

    // ---- calls

    private static void calls512() {
        says("An object is used for at most 512 calls after it has been made; what later calls answer is free.");
        // as many nights as there can be: what is counted is far from wrapping
        String world = "thing a 1;inn i 99 7 0;" + times(6, "guest", " 0 0 0") + "fine 9;owes=999;shows=100;";
        DreamDuty x = of(world);
        int calls = (world.length() + 19) / 20 + 3;
        for (int g = 0; g < 6; g++) x.lodge(g, 0);
        calls += 6;
        int nights = 0;
        for (; calls + 2 < 512 - 4; calls += 2) {
            nights += 30;
            due("nights", x.nights(30), nights);
            due("morning", x.morning(), 6 * 9 * 999);
        }
        due("coins", x.guest(5, 0), -99 * nights - nights / 30 * 9 * 999);
        due("to inns", x.count(6), 6 * 99 * nights);
        due("customs", x.count(5), nights / 30 * 6 * 9 * 999);
        due("the last call", x.count(4), nights);
        // a year from there on
        DreamDuty y = of(world);
        y.lodge(0, 0);
        for (int n = 0; n < 470; n++) y.nights(30);
        due("a year", y.year(0, 30, 20), 20 * (-99 * (470 * 30 + 30) - 30 * 9 * 999));
        due("undone", y.count(9), 40);
        // later ones answer something
        for (int n = 0; n < 3000; n++) {
            y.nights(30);
            y.morning();
        }
        y.poorBy(0);
        y.lodging(15);
        due("later ones", y.count(2), 6);
    }
}
