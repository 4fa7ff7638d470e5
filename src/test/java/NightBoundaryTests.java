import java.util.ArrayList;
import java.util.List;

/** A test for each sentence of the document's part II. on dreams, nights, mornings and what is done by hand, and of promises 6 to 14. */
public final class NightBoundaryTests extends Check {
    // Six guests, one inn with a bed for each, and one thing that all dream.
    private static final String SIX = "thing a 1;inn i 2 7 0;inn j 3 1 0;" + times(6, "guest", " 10 100 1");

    public static void main(String[] args) {
        dreamTwice();
        dreamTwiceAmongOthers();
        nowhere();
        fiveOnDeposit();
        paysPrice();
        inPlaceOfTheOneAhead();
        firstThingMoreThanTheLot();
        noneWithoutWeights();
        unitsHeld();
        nextNight();
        declares();
        seen();
        neither();
        allAsItIsAhead();
        allDreamsGone();
        lastDreamt();
        byHandLodged();
        byHandSwapped();
        byHandLeft();
        guest();
        guestOthers();
        inn();
        innOthers();
        gives();
        lodge();
        lodgeRefused();
        nights();
        nightsRefused();
        morning();
        morningRefused();
        swap();
        swapRefused();
        deposit();
        depositRefused();
        undo();
        undoDeposits();
        undoTheLast40();
        undoNone();
        end();
    }

    private static DreamDuty six(String more) {
        DreamDuty x = of(SIX + more);
        for (int g = 0; g < 6; g++) x.lodge(g, 0);
        return x;
    }

    // ---- dreams

    private static void dreamTwice() {
        says("A DREAM: a THING, UNITS, and whether it was TWICE: if, as it is dreamt, it is the THING dreamt last at that INN, by another GUEST.");
        DreamDuty x = of("thing a 1;inn i 0 3 0;inn j 0 3 0;guest g 0 0 0;guest h 0 0 0;owes=twice;");
        x.lodge(0, 0);
        x.nights(1);
        due("the first there", x.guest(0, 4), 0);
        x.nights(1);
        due("by himself", x.guest(0, 4), 0);
        x.lodge(0, -1);
        x.lodge(1, 0);
        x.nights(1);
        due("by another one", x.guest(1, 4), 1);
        x.nights(1);
        due("by himself since", x.guest(1, 4), 0);
        x.lodge(1, 1);
        x.nights(1);
        due("the first at another inn", x.guest(1, 4), 0);
        x.lodge(0, 1);
        x.nights(1);
        due("by another one there", x.guest(0, 4), 1);
        due("by the one ahead of him in that night", x.guest(1, 4), 1);
        x.lodge(1, 0);
        x.nights(1);
        due("by himself long since", x.guest(1, 4), 0);
        due("by the one who has gone", x.guest(0, 4), 1);
    }

    private static void dreamTwiceAmongOthers() {
        says("it is the THING dreamt last at that INN, by another GUEST.");
        DreamDuty x = of("thing a 1;thing b 2;inn i 0 3 0;guest g 0 0 0;guest h 0 0 0;guest k 0 0 0;owes=twice;seed 5;");
        for (int g = 0; g < 3; g++) x.lodge(g, 0);
        int last = -2;
        int by = -2;
        for (int n = 0; n < 40; n++) {
            x.nights(1);
            for (int g = 0; g < 3; g++) {
                int thing = x.guest(g, 2);
                due("night " + n + ", guest " + g, x.guest(g, 4), thing == last && g != by ? 1 : 0);
                last = thing;
                by = g;
            }
            due("last", x.inn(0, 2), last);
            due("by", x.inn(0, 3), by);
        }
    }

    private static void nowhere() {
        says("A GUEST is lodged at an INN, or nowhere; he has a DREAM, or none;");
        DreamDuty x = of(SIX);
        for (int g = 0; g < 6; g++) {
            due("inn", x.guest(g, 1), -2);
            due("thing", x.guest(g, 2), -2);
        }
        x.lodge(5, 1);
        x.nights(1);
        for (int g = 0; g < 6; g++) {
            due("inn", x.guest(g, 1), g == 5 ? 1 : -2);
            due("thing", x.guest(g, 2), g == 5 ? 0 : -2);
            due("coins", x.guest(g, 0), g == 5 ? 7 : 10);
        }
    }

    private static void fiveOnDeposit() {
        says("DREAMS left on deposit are kept for him, 5 at most.");
        DreamDuty x = six("much=10*night+degree;owes=units;");
        for (int n = 1; n <= 5; n++) {
            x.nights(1);
            for (int g = 0; g < 6; g++) due("leaves", x.deposit(g, false), n);
        }
        x.nights(1);
        for (int g = 0; g < 6; g++) {
            due("a sixth", x.deposit(g, false), -2);
            due("he has it still", x.guest(g, 3), 51);
        }
        x.morning();
        // each takes back his own, the last one first, and none of anybody else's
        for (int n = 4; n >= 0; n--) {
            for (int g = 0; g < 6; g++) {
                due("takes", x.deposit(g, true), n);
                due("units", x.guest(g, 3), 10 * n + 1);
            }
            x.morning();
        }
        for (int g = 0; g < 6; g++) due("none left", x.deposit(g, true), -2);
    }

    // ---- a night

    private static void paysPrice() {
        says("A NIGHT: GUEST by GUEST, who is lodged: he pays PRICE (his COINS may be below 0 then);");
        DreamDuty x = of("thing a 1;inn i 99 7 0;inn j 0 7 0;guest g 0 0 0;guest h 99 0 0;guest k 99 0 0;guest l 7 0 0;");
        x.lodge(0, 0);
        x.lodge(1, 0);
        x.lodge(2, 1);
        x.nights(1);
        int[] first = {-99, 0, 99, 7};
        for (int g = 0; g < 4; g++) due("coins", x.guest(g, 0), first[g]);
        x.nights(1);
        int[] second = {-198, -99, 99, 7};
        for (int g = 0; g < 4; g++) due("coins", x.guest(g, 0), second[g]);
        due("to inns", x.count(6), 4 * 99);
        due("at the customs", x.count(5), 0);
    }

    private static void inPlaceOfTheOneAhead() {
        says("his DREAM (in place of the one ahead, if there is one)");
        DreamDuty x = of("thing a 1;thing b 1;inn i 0 1 0;inn j 0 1 0;gives i b 0;gives j a 0;guest g 0 0 0;guest h 0 0 0;much=night+1;");
        x.lodge(0, 0);
        x.lodge(1, 1);
        x.nights(1);
        x.swap(0, 1);
        x.lodge(1, -1);
        x.nights(1);
        due("in place", x.guest(0, 2), 0);
        due("in place", x.guest(0, 3), 2);
        due("who is nowhere keeps his", x.guest(1, 2), 0);
        due("who is nowhere keeps his", x.guest(1, 3), 1);
        due("on deposit", x.guest(0, 5), 0);
    }

    private static void firstThingMoreThanTheLot() {
        says("is the first THING with which the WEIGHTS of his INN so far, together, are more than LOT (all WEIGHTS of it together)"
                + " of the SEED and 64 * the night and his number");
        int[][] weights = {{0, 0, 0, 0, 0, 0, 9}, {1, 1, 1, 1, 1, 1, 1}, {0, 9, 0, 1, 0, 5, 0}, {9, 9, 9, 9, 9, 9, 9}, {1, 0, 0, 0, 0, 0, 1}};
        StringBuilder world = new StringBuilder(times(7, "thing", " 1") + times(5, "inn", " 0 7 0") + times(6, "guest", " 0 0 0"));
        for (int i = 0; i < 5; i++) {
            for (int t = 0; t < 7; t++) world.append("gives i").append((char) ('a' + i)).append(" t").append((char) ('a' + t)).append(' ').append(weights[i][t]).append(';');
        }
        for (int seed : new int[] {0, 1, 77, 4096, 9999}) {
            for (int inn = 0; inn < 5; inn++) {
                DreamDuty x = of(world + "seed " + seed + ";");
                int all = 0;
                for (int w : weights[inn]) all += w;
                due("all weights", x.inn(inn, 4), all);
                for (int g = 0; g < 6; g++) x.lodge(g, inn);
                for (int night = 0; night < 25; night++) {
                    x.nights(1);
                    for (int g = 0; g < 6; g++) {
                        int lot = Oracle.lot(all, seed, 64 * night + g);
                        int thing = -1;
                        for (int sum = 0; sum <= lot; sum += weights[inn][thing]) thing++;
                        due("inn " + inn + ", night " + night + ", guest " + g, x.guest(g, 2), thing);
                    }
                }
            }
        }
    }

    private static void noneWithoutWeights() {
        says("(none, if that is 0: he has none then);");
        DreamDuty x = of("thing a 1;inn i 2 2 0;inn j 5 2 0;gives j a 0;guest g 9 0 0;guest h 9 0 0;");
        x.lodge(0, 0);
        x.lodge(1, 0);
        x.nights(1);
        x.lodge(0, 1);
        x.nights(1);
        due("none then", x.guest(0, 2), -2);
        due("none then", x.guest(0, 3), -2);
        due("he pays all the same", x.guest(0, 0), 9 - 2 - 5);
        due("the other one has one", x.guest(1, 2), 0);
        due("none dreamt there", x.inn(1, 2), -2);
        due("none dreamt there", x.inn(1, 3), -2);
        due("where it was dreamt", x.inn(0, 3), 1);
        // an inn of a border without things
        x = of("inn i 1 1 1;guest g 3 1 1;");
        x.lodge(0, 0);
        due("nights", x.nights(2), 2);
        due("none then", x.guest(0, 2), -2);
        due("he pays", x.guest(0, 0), 1);
        due("morning", x.morning(), -2);
    }

    private static void unitsHeld() {
        says("UNITS are what MUCH tells, held to 0 .. 99.");
        String[] laws = {"0-1", "0", "1", "98", "99", "100", "9999", "2048*1024*1024", "2048*1024*1024-1", "1/0", "0-9999"};
        int[] units = {0, 0, 1, 98, 99, 99, 99, 0, 99, 0, 0};
        for (int i = 0; i < laws.length; i++) {
            DreamDuty x = of("thing a 1;inn i 0 1 0;guest g 0 0 0;much=" + laws[i] + ";");
            x.lodge(0, 0);
            x.nights(1);
            due("much " + laws[i], x.guest(0, 3), units[i]);
            due("owes by it", x.guest(0, 4), units[i]);
        }
    }

    private static void nextNight() {
        says("Then it is the next night.");
        DreamDuty x = six("");
        for (int n = 1; n <= 60; n++) {
            due("nights", x.nights(1), n);
            due("night", x.count(4), n);
            if (n % 20 == 0) {
                x.morning();
                due("a morning is no night", x.count(4), n);
            }
        }
    }

    // ---- a morning

    // Each guest's honesty is his lot, or one more: who has one more declares.
    private static void declares() {
        says("MORNING (by hand): GUEST by GUEST, who has a DREAM: he DECLARES, if LOT 100 of 64 * the night and 16 and his number"
                + " is less than HONEST: he pays what he OWES;");
        for (int seed : new int[] {0, 3, 77, 9999}) {
            for (int night = 1; night <= 6; night++) {
                for (int who = 0; who < 2; who++) {
                    StringBuilder s = new StringBuilder("thing a 7;inn i 0 7 0;");
                    for (int g = 0; g < 6; g++) {
                        int lot = Oracle.lot(100, seed, 64 * night + 16 + g);
                        s.append("guest g").append((char) ('a' + g)).append(" 50 ").append(lot + (g + who) % 2).append(" 0;");
                    }
                    DreamDuty x = of(s + "shows=0;seed " + seed + ";");
                    for (int g = 0; g < 6; g++) x.lodge(g, 0);
                    x.nights(night);
                    due("morning", x.morning(), 3 * 7);
                    for (int g = 0; g < 6; g++) {
                        due("declared " + g, x.guest(g, 6), (g + who) % 2);
                        due("coins " + g, x.guest(g, 0), 50 - (g + who) % 2 * 7);
                        due("seen " + g, x.guest(g, 7), 0);
                    }
                }
            }
        }
        // 0 is never, 100 is always
        DreamDuty x = of("thing a 1;inn i 0 7 0;guest g 0 0 0;guest h 0 100 0;shows=0;");
        x.lodge(0, 0);
        x.lodge(1, 0);
        for (int n = 0; n < 100; n++) {
            x.nights(1);
            x.morning();
        }
        due("never", x.guest(0, 6), 0);
        due("always", x.guest(1, 6), 100);
    }

    private static void seen() {
        says("else, if LOT 100 of 64 * the night and 32 and his number is less than SHOWS tells (held to 0 .. 100): he is SEEN, and pays FINE times that;");
        for (int fine : new int[] {1, 2, 9}) {
            for (int g = 0; g < 6; g++) {
                for (int night = 1; night <= 3; night++) {
                    int lot = Oracle.lot(100, 77, 64 * night + 32 + g);
                    for (int more = 0; more < 2; more++) {
                        DreamDuty x = of("thing a 7;inn i 0 7 0;" + times(6, "guest", " 50 0 0") + "seed 77;fine " + fine + ";shows=" + (lot + more) + ";");
                        x.lodge(g, 0);
                        x.nights(night);
                        due("morning", x.morning(), more * fine * 7);
                        due("seen", x.guest(g, 7), more);
                        due("coins", x.guest(g, 0), 50 - more * fine * 7);
                        due("declared", x.guest(g, 6), 0);
                    }
                }
            }
        }
        says("(held to 0 .. 100)");
        String[] laws = {"0", "0-1", "2048*1024*1024", "1/0", "100", "101", "9999", "2048*1024*1024-1"};
        for (int i = 0; i < laws.length; i++) {
            DreamDuty x = of("thing a 1;inn i 0 7 0;" + times(6, "guest", " 0 0 0") + "shows=" + laws[i] + ";");
            for (int g = 0; g < 6; g++) x.lodge(g, 0);
            for (int n = 0; n < 20; n++) {
                x.nights(1);
                due("morning, shows " + laws[i], x.morning(), i < 4 ? 0 : 12);
            }
        }
        // who declares is not seen, whatever shows
        DreamDuty x = six("shows=100;fine 9;");
        x.nights(1);
        due("morning", x.morning(), 6);
        due("seen", x.guest(0, 7), 0);
    }

    private static void neither() {
        says("else nothing");
        DreamDuty x = of("thing a 7;inn i 0 7 0;guest g 5 0 0;shows=0;");
        x.lodge(0, 0);
        x.nights(1);
        due("morning", x.morning(), 0);
        int[] of = {5, 0, -2, -2, 0, 0, 0, 0};
        for (int what = 0; what < 8; what++) due("guest " + what, x.guest(0, what), of[what]);
        due("a thing done all the same", x.count(9), 3);
        due("no dreams", x.count(7), 0);
    }

    private static void allAsItIsAhead() {
        says("(all as it is ahead of it).");
        // what the first ones owe and show is not less for the last ones by their having paid
        DreamDuty x = six("owes=10*alike;");
        x.nights(1);
        due("morning", x.morning(), 6 * 50);
        for (int g = 0; g < 6; g++) due("coins", x.guest(g, 0), 10 - 2 - 50);
        x = of(SIX.replace(" 100 1", " 0 1") + "owes=10+alike;shows=20*alike;");
        for (int g = 0; g < 6; g++) x.lodge(g, 0);
        x.nights(1);
        due("morning", x.morning(), 6 * 2 * 15);
        // twins are weighed by both dreams
        x = six("twins ga gf;owes=7;");
        x.nights(1);
        due("morning", x.morning(), 5 * 7);
        due("the other twin", x.guest(5, 0), 8);
    }

    private static void allDreamsGone() {
        says("All DREAMS are gone behind the last.");
        DreamDuty x = six("");
        x.nights(1);
        x.deposit(3, false);
        x.lodge(0, -1);
        x.morning();
        due("dreams", x.count(7), 0);
        for (int g = 0; g < 6; g++) {
            due("thing", x.guest(g, 2), -2);
            due("units", x.guest(g, 3), -2);
            due("owes", x.guest(g, 4), 0);
            due("who had none pays nothing", x.guest(g, 0), g == 3 ? 8 : 7);
            due("who had none declares nothing", x.guest(g, 6), g == 3 ? 0 : 1);
        }
        due("on deposit it is not gone", x.deposit(3, true), 0);
        due("thing", x.guest(3, 2), 0);
        // nor is he seen
        DreamDuty y = of(SIX.replace(" 100 1", " 0 1") + "shows=100;");
        y.lodge(0, 0);
        y.nights(1);
        y.morning();
        for (int g = 0; g < 6; g++) due("seen", y.guest(g, 7), g == 0 ? 1 : 0);
    }

    private static void lastDreamt() {
        says("The THING last dreamt at an INN, and by whom, is kept as it is dreamt there.");
        DreamDuty x = six("");
        x.nights(1);
        x.lodge(5, 1);
        x.swap(4, 5);
        x.deposit(5, false);
        x.morning();
        due("thing", x.inn(0, 2), 0);
        due("by", x.inn(0, 3), 5);
        due("not dreamt there", x.inn(1, 2), -2);
        due("not dreamt there", x.inn(1, 3), -2);
        x.nights(1);
        due("by", x.inn(0, 3), 4);
        due("by", x.inn(1, 3), 5);
        for (int g = 0; g < 6; g++) x.lodge(g, -1);
        x.nights(3);
        due("nobody since", x.inn(0, 2), 0);
        due("nobody since", x.inn(0, 3), 4);
    }

    // ---- by hand

    private static void byHandLodged() {
        says("By hand: a GUEST is LODGED (if there is a BED yet), or goes;");
        DreamDuty x = of("inn i 0 6 0;inn j 0 1 0;inn k 0 5 0;" + times(6, "guest", " 0 0 0"));
        for (int g = 0; g < 5; g++) due("a bed yet", x.lodge(g, 2), true);
        due("no bed", x.lodge(5, 2), false);
        due("the only bed", x.lodge(0, 1), true);
        due("the bed that is free by it", x.lodge(5, 2), true);
        due("no bed", x.lodge(1, 1), false);
        due("goes", x.lodge(0, -1), true);
        due("a bed yet", x.lodge(1, 1), true);
        for (int g = 0; g < 6; g++) due("a bed for each", x.lodge(g, 0), true);
        // each inn of five, with each number of beds
        for (int beds = 1; beds <= 6; beds++) {
            DreamDuty y = of(times(5, "inn", " 0 " + beds + " 0") + times(6, "guest", " 0 0 0"));
            for (int i = 0; i < 5; i++) {
                for (int g = 0; g < 6; g++) due(beds + " beds, inn " + i, y.lodge(g, i), g < beds);
            }
        }
    }

    private static void byHandSwapped() {
        says("two GUESTS SWAP their DREAMS (or none);");
        DreamDuty x = of("thing a 1;thing b 1;inn i 0 1 0;inn j 0 1 0;gives i b 0;gives j a 0;" + times(6, "guest", " 0 0 0") + "much=which+3;");
        x.lodge(0, 0);
        x.lodge(5, 1);
        x.nights(1);
        due("both", x.swap(5, 0), true);
        due("the other's", x.guest(0, 2) * 10 + x.guest(0, 3), 14);
        due("the other's", x.guest(5, 2) * 10 + x.guest(5, 3), 3);
        due("one has none", x.swap(0, 3), true);
        due("none", x.guest(0, 2), -2);
        due("his", x.guest(3, 2), 1);
        due("one has none", x.swap(0, 3), true);
        due("his again", x.guest(0, 2), 1);
        due("with dreams", x.count(7), 33);
        due("lodged as they were", x.guest(0, 1) * 10 + x.guest(5, 1), 1);
    }

    private static void byHandLeft() {
        says("a GUEST leaves his DREAM ON DEPOSIT, or takes the last one back (if he has none).");
        DreamDuty x = six("much=night*2+5;");
        x.nights(1);
        due("leaves", x.deposit(2, false), 1);
        x.nights(1);
        due("has one", x.deposit(2, true), -2);
        due("leaves", x.deposit(2, false), 2);
        due("the last", x.deposit(2, true), 1);
        due("the last", x.guest(2, 3), 7);
        due("leaves it again", x.deposit(2, false), 2);
        x.swap(2, 1);
        due("has another's", x.deposit(2, true), -2);
        due("leaves another's", x.deposit(2, false), 3);
        due("takes it back", x.deposit(2, true), 2);
        x.morning();
        due("takes", x.deposit(2, true), 1);
        x.swap(2, 0);
        due("gave it away", x.deposit(2, true), 0);
        due("the first", x.guest(2, 3), 5);
        due("the second is another's", x.guest(0, 3), 7);
    }

    // ---- promises 6 to 8

    private static void guest() {
        says("Of a GUEST: what 0 COINS (may be below 0), 1 the INN (-2: nowhere), 2 the THING dreamt (-2: none), 3 UNITS (-2: none),"
                + " 4 what he OWES now (0: no DREAM), 5 DREAMS on deposit, 6 how often he DECLARED, 7 how often he was SEEN.");
        DreamDuty x = of("thing a 5;inn i 7 2 0;guest g 10 100 0;guest h 0 0 0;shows=100;much=3;");
        int[] first = {10, -2, -2, -2, 0, 0, 0, 0};
        for (int what = 0; what < 8; what++) due("guest 0 " + what, x.guest(0, what), first[what]);
        x.lodge(0, 0);
        x.lodge(1, 0);
        x.nights(1);
        int[] dreamt = {-7, 0, 0, 3, 15, 0, 0, 0};
        for (int what = 0; what < 8; what++) due("guest 1 " + what, x.guest(1, what), dreamt[what]);
        x.morning();
        x.nights(1);
        x.deposit(1, false);
        x.nights(1);
        x.morning();
        x.lodge(1, -1);
        int[] then = {-21 - 60, -2, -2, -2, 0, 1, 0, 2};
        for (int what = 0; what < 8; what++) due("guest 1 " + what, x.guest(1, what), then[what]);
        int[] other = {10 - 21 - 30, 0, -2, -2, 0, 0, 2, 0};
        for (int what = 0; what < 8; what++) due("guest 0 " + what, x.guest(0, what), other[what]);
    }

    private static void guestOthers() {
        says("-100000 for others.");
        DreamDuty x = six("");
        due("the last", x.guest(5, 7), 0);
        for (int g : new int[] {-1, 6, 7, 64}) due("guest " + g, x.guest(g, 0), -100000);
        for (int what : new int[] {-1, 8, 9, 100}) due("what " + what, x.guest(0, what), -100000);
        for (int w : WILD) {
            for (int what = 0; what < 8; what++) due("guest " + w, x.guest(w, what), -100000);
            for (int g = 0; g < 6; g++) due("what " + w, x.guest(g, w), -100000);
        }
        due("of none", of("thing a 1;inn i 1 1 1;").guest(0, 0), -100000);
    }

    private static void inn() {
        says("Of an INN: what 0 GUESTS lodged (bits), 1 BEDS that are free, 2 the THING dreamt last (-2: none), 3 by whom (-2: none), 4 all WEIGHTS.");
        DreamDuty x = of("thing a 1;thing b 1;" + SIX.substring(SIX.indexOf("inn")).replace("i 2 7", "i 2 6") + "gives i a 0;gives j a 9;gives j b 9;thing c 1;gives i c 0;gives j c 9;");
        int[] first = {0, 6, -2, -2, 1};
        for (int what = 0; what < 5; what++) due("inn 0 " + what, x.inn(0, what), first[what]);
        due("all weights", x.inn(1, 4), 27);
        int bits = 0;
        for (int g : new int[] {5, 0, 3, 1, 4, 2}) {
            x.lodge(g, 0);
            bits += 1 << g;
            due("lodged", x.inn(0, 0), bits);
            due("free", x.inn(0, 1), 6 - Integer.bitCount(bits));
        }
        due("full", x.inn(0, 1), 0);
        due("full", x.inn(0, 0), 63);
        due("none last", x.inn(0, 2), -2);
        x.nights(1);
        due("last", x.inn(0, 2), 1);
        due("by", x.inn(0, 3), 5);
        due("none last", x.inn(1, 2), -2);
        due("none last", x.inn(1, 3), -2);
        due("no weights", of("thing a 1;inn i 1 1 1;gives i a 0;").inn(0, 4), 0);
        due("no things", of("inn i 1 1 1;").inn(0, 4), 0);
    }

    private static void innOthers() {
        says("4 all WEIGHTS. NONE for others.");
        DreamDuty x = of(times(5, "inn", " 1 7 1"));
        due("the last", x.inn(4, 1), 7);
        for (int i : new int[] {-1, 5, 6, 32}) due("inn " + i, x.inn(i, 1), -1);
        for (int what : new int[] {-1, 5, 6, 100}) due("what " + what, x.inn(0, what), -1);
        for (int w : WILD) {
            for (int what = 0; what < 5; what++) due("inn " + w, x.inn(w, what), -1);
            for (int i = 0; i < 5; i++) due("what " + w, x.inn(i, w), -1);
        }
        due("of none", of("thing a 1;").inn(0, 0), -1);
    }

    private static void gives() {
        says("WEIGHT with which an INN gives a THING; NONE: no such ones.");
        DreamDuty x = of(times(7, "thing", " 1") + times(5, "inn", " 1 7 1") + "gives ia ta 0;gives ia tg 9;gives ie ta 8;gives ie tg 7;gives ib tb 2;");
        due("the least", x.gives(0, 0), 0);
        due("the most", x.gives(0, 6), 9);
        due("the last inn", x.gives(4, 0), 8);
        due("the last of both", x.gives(4, 6), 7);
        due("told", x.gives(1, 1), 2);
        due("not told", x.gives(2, 1), 1);
        for (int inn : new int[] {-1, 5, 6}) for (int thing = -1; thing < 8; thing++) due("no inn", x.gives(inn, thing), -1);
        for (int thing : new int[] {-1, 7, 8}) for (int inn = -1; inn < 6; inn++) due("no thing", x.gives(inn, thing), -1);
        for (int w : WILD) {
            due("wild", x.gives(w, 0), -1);
            due("wild", x.gives(0, w), -1);
            due("wild", x.gives(w, w), -1);
        }
        // numbers that there are, but of another sort
        DreamDuty y = of("thing a 1;thing b 1;thing c 1;inn i 1 1 1;");
        due("three things, one inn", y.gives(0, 2), 1);
        due("no such inn", y.gives(1, 0), -1);
    }

    // ---- promises 9 to 13

    private static void lodge() {
        says("LODGED (inn NONE: he goes): true;");
        DreamDuty x = of(SIX);
        due("lodged", x.lodge(0, 0), true);
        due("where", x.guest(0, 1), 0);
        due("another inn", x.lodge(0, 1), true);
        due("where", x.guest(0, 1), 1);
        due("goes", x.lodge(0, -1), true);
        due("where", x.guest(0, 1), -2);
        due("the last guest", x.lodge(5, 1), true);
        due("things done", x.count(9), 4);
        due("no coins go by it", x.guest(0, 0) + x.guest(5, 0), 20);
        due("no night", x.count(4), 0);
    }

    private static void lodgeRefused() {
        says("false, and nothing happens: it is so, no BED, no such ones.");
        DreamDuty x = of(SIX);
        x.lodge(0, 1);
        x.lodge(1, 0);
        x.nights(1);
        int[][] calls = {{0, 1}, {1, 0}, {2, -1}, {5, -1}, {2, 1}, {1, 1}, {0, 2}, {0, 5}, {0, -2}, {6, 0}, {6, -1}, {-1, 0}, {-1, -1}, {7, 7}};
        for (int[] c : calls) still(x, () -> due("lodge " + c[0] + " " + c[1], x.lodge(c[0], c[1]), false));
        for (int w : WILD) {
            still(x, () -> due("lodge wild", x.lodge(w, 0), false));
            still(x, () -> due("lodge wild", x.lodge(w, -1), false));
            still(x, () -> due("lodge wild", x.lodge(0, w), false));
        }
        DreamDuty y = of("guest g 1 1 1;");
        due("no inns", y.lodge(0, 0), false);
        due("he is nowhere", y.lodge(0, -1), false);
    }

    private static void nights() {
        says("n NIGHTS (0 .. 30; 0 is no thing done), no MORNINGS: which it is;");
        DreamDuty x = six("much=night;");
        still(x, () -> due("none", x.nights(0), 0));
        due("one", x.nights(1), 1);
        due("undone", x.count(9), 7);
        still(x, () -> due("none", x.nights(0), 1));
        due("thirty", x.nights(30), 31);
        due("one thing done", x.count(9), 8);
        due("coins", x.guest(0, 0), 10 - 2 * 31);
        due("no mornings", x.count(5), 0);
        due("dreams", x.count(7), 63);
        due("the last night's", x.guest(0, 3), 30);
        // as many nights one by one
        DreamDuty y = six("much=night;");
        for (int n = 1; n <= 31; n++) due("night", y.nights(1), n);
        for (int g = 0; g < 6; g++) for (int what = 0; what < 8; what++) due("guest " + g, x.guest(g, what), y.guest(g, what));
        due("nights at an empty border", new DreamDuty().nights(30), 30);
    }

    private static void nightsRefused() {
        says("NONE, and nothing happens: no such n.");
        DreamDuty x = six("");
        x.nights(2);
        for (int n : new int[] {-1, 31, 32, 60, 1000}) still(x, () -> due("nights " + n, x.nights(n), -1));
        for (int w : WILD) still(x, () -> due("nights " + w, x.nights(w), -1));
        due("the next one", x.nights(1), 3);
    }

    private static void morning() {
        says("MORNING: how much all pay together;");
        DreamDuty x = of("thing a 3;inn i 0 7 0;" + times(5, "guest", " 0 100 9") + "guest z 0 0 1;shows=100;fine 9;owes=100*degree;twins ga gb;");
        for (int g = 0; g < 6; g++) x.lodge(g, 0);
        x.nights(1);
        due("all", x.morning(), 4 * 900 + 9 * 100);
        due("at the customs", x.count(5), 4500);
        x.nights(1);
        for (int g = 0; g < 5; g++) x.deposit(g, false);
        due("one alone", x.morning(), 900);
        due("at the customs", x.count(5), 5400);
        due("to inns", x.count(6), 0);
    }

    private static void morningRefused() {
        says("-2, and nothing happens: nobody has a DREAM.");
        DreamDuty x = six("");
        still(x, () -> due("not yet", x.morning(), -2));
        x.nights(1);
        x.morning();
        still(x, () -> due("not any more", x.morning(), -2));
        x.nights(1);
        for (int g = 0; g < 6; g++) x.deposit(g, false);
        still(x, () -> due("all on deposit", x.morning(), -2));
        x.deposit(4, true);
        due("one of them", x.morning(), 1);
        due("nobody there", new DreamDuty().morning(), -2);
    }

    private static void swap() {
        says("SWAP: true;");
        DreamDuty x = of(SIX + "much=which+7;");
        x.lodge(0, 0);
        x.nights(1);
        // the dream goes from one to the next and back to the first
        for (int g = 0; g < 6; g++) {
            due("swap", g % 2 == 0 ? x.swap(g, (g + 1) % 6) : x.swap((g + 1) % 6, g), true);
            due("with dreams", x.count(7), 1 << (g + 1) % 6);
            due("units", x.guest((g + 1) % 6, 3), 7);
        }
        due("things done", x.count(9), 8);
    }

    private static void swapRefused() {
        says("false, and nothing happens: neither has a DREAM, one and the same, no such ones.");
        DreamDuty x = of(SIX);
        still(x, () -> due("neither", x.swap(0, 1), false));
        x.lodge(0, 0);
        x.nights(1);
        int[][] calls = {{1, 2}, {4, 5}, {0, 0}, {1, 1}, {5, 5}, {0, 6}, {6, 0}, {0, -1}, {-1, 0}, {-1, -1}, {6, 6}, {-2, 0}};
        for (int[] c : calls) still(x, () -> due("swap " + c[0] + " " + c[1], x.swap(c[0], c[1]), false));
        for (int w : WILD) {
            still(x, () -> due("swap wild", x.swap(w, 0), false));
            still(x, () -> due("swap wild", x.swap(0, w), false));
            still(x, () -> due("swap wild", x.swap(w, w), false));
        }
        x.deposit(0, false);
        still(x, () -> due("on deposit is not had", x.swap(0, 1), false));
    }

    private static void deposit() {
        says("ON DEPOSIT (or taken back): how many are there then;");
        DreamDuty x = six("");
        for (int n = 1; n <= 5; n++) {
            x.nights(1);
            due("there then", x.deposit(5, false), n);
            due("there", x.guest(5, 5), n);
        }
        for (int n = 4; n >= 0; n--) {
            due("there then", x.deposit(5, true), n);
            due("there", x.guest(5, 5), n);
            x.morning();
        }
        due("of others", x.guest(4, 5), 0);
    }

    private static void depositRefused() {
        says("-2, and nothing happens: he has none (or one), 5 are there (or none); NONE: no such one.");
        DreamDuty x = six("");
        still(x, () -> due("he has none", x.deposit(0, false), -2));
        still(x, () -> due("none there", x.deposit(0, true), -2));
        x.nights(1);
        still(x, () -> due("he has one, none there", x.deposit(0, true), -2));
        x.deposit(0, false);
        still(x, () -> due("he has none, one there", x.deposit(0, false), -2));
        x.nights(1);
        still(x, () -> due("he has one, one there", x.deposit(0, true), -2));
        for (int n = 2; n <= 5; n++) {
            due("leaves", x.deposit(0, false), n);
            x.nights(1);
        }
        still(x, () -> due("five there", x.deposit(0, false), -2));
        still(x, () -> due("he has one, five there", x.deposit(0, true), -2));
        x.morning();
        still(x, () -> due("he has none, five there", x.deposit(0, false), -2));
        for (int g : new int[] {-1, 6, 7}) {
            still(x, () -> due("no such one", x.deposit(g, false), -1));
            still(x, () -> due("no such one", x.deposit(g, true), -1));
        }
        for (int w : WILD) {
            still(x, () -> due("no such one", x.deposit(w, false), -1));
            still(x, () -> due("no such one", x.deposit(w, true), -1));
        }
        due("at an empty border", new DreamDuty().deposit(0, true), -1);
    }

    // ---- promise 14

    // The things that can be done, one after the other, some of them several times.
    private static void act(DreamDuty x, int n) {
        switch (n % 9) {
            case 0 -> x.lodge(0, n % 2 == 0 ? 0 : -1);
            case 1 -> x.lodge(1, n % 2 == 0 ? -1 : 0);
            case 2 -> x.nights(2);
            case 3 -> x.deposit(1, false);
            case 4 -> x.nights(30);
            case 5 -> x.swap(1, 2);
            case 6 -> x.morning();
            case 7 -> x.deposit(1, true);
            default -> x.swap(0, 1);
        }
    }

    private static void undo() {
        says("The last thing done (lodge, nights, morning, swap, deposit) is undone: true;");
        DreamDuty x = of(SIX + "thing b 5;much=night;shows=30;");
        List<String> ahead = new ArrayList<>();
        for (int n = 0; n < 60 && ahead.size() < 16; n++) {
            String shown = shown(x);
            act(x, n);
            if (x.count(9) > ahead.size()) ahead.add(shown);
        }
        due("things done", x.count(9), ahead.size());
        while (!ahead.isEmpty()) {
            due("undo", x.undo(), true);
            due("shown", shown(x), ahead.remove(ahead.size() - 1));
        }
        due("none left", x.undo(), false);
        // what is undone is not done again, and what is done then is undone first
        DreamDuty y = six("");
        y.nights(1);
        y.nights(2);
        due("undo", y.undo(), true);
        due("night", y.count(4), 1);
        y.nights(5);
        due("undo", y.undo(), true);
        due("night", y.count(4), 1);
        due("undo", y.undo(), true);
        due("night", y.count(4), 0);
        // what is told, held or put on the tape is no thing done
        y.tell(0);
        y.hold(0);
        y.feed(0, 0, 0, 0, 0);
        due("things done", y.count(9), 6);
        due("undo", y.undo(), true);
        due("lodged", y.guest(5, 1), -2);
        due("told, held, on the tape", y.count(10) * 100 + y.count(11) * 50 + y.count(8), 170);
    }

    private static void undoDeposits() {
        says("The last thing done (lodge, nights, morning, swap, deposit) is undone:");
        // five of each on deposit, of which the last is another one since
        DreamDuty x = six("much=10*night+degree;");
        for (int n = 0; n < 5; n++) {
            x.nights(1);
            for (int g = 0; g < 6; g++) x.deposit(g, false);
        }
        for (int g = 0; g < 6; g++) due("takes", x.deposit(g, true), 4);
        x.nights(1);
        for (int g = 0; g < 6; g++) due("leaves another one", x.deposit(g, false), 5);
        for (int n = 0; n < 13; n++) due("undo", x.undo(), true);
        for (int n = 4; n >= 0; n--) {
            for (int g = 0; g < 6; g++) {
                due("takes", x.deposit(g, true), n);
                due("as it was", x.guest(g, 3), 10 * n + 1);
            }
            x.morning();
        }
    }

    private static void undoTheLast40() {
        says("(the last 40 can be).");
        for (int done : new int[] {39, 40, 41, 42, 79, 80, 81, 100}) {
            DreamDuty x = of(SIX);
            for (int n = 1; n <= done; n++) {
                due("night", x.nights(1), n);
                due("can be undone", x.count(9), Math.min(n, 40));
            }
            for (int n = done - 1; n >= Math.max(0, done - 40); n--) {
                due("undo", x.undo(), true);
                due("night", x.count(4), n);
            }
            due("none left", x.undo(), false);
            due("night", x.count(4), Math.max(0, done - 40));
            due("can be undone", x.count(9), 0);
        }
        // some undone in between
        DreamDuty x = of(SIX);
        for (int n = 0; n < 45; n++) x.nights(1);
        for (int n = 0; n < 10; n++) x.undo();
        due("can be undone", x.count(9), 30);
        for (int n = 0; n < 20; n++) x.nights(1);
        due("can be undone", x.count(9), 40);
        for (int n = 0; n < 40; n++) due("undo", x.undo(), true);
        due("night", x.count(4), 55 - 40);
        due("none left", x.undo(), false);
        for (int n = 0; n < 3; n++) x.nights(1);
        due("can be undone", x.count(9), 3);
    }

    private static void undoNone() {
        says("false: there is none");
        DreamDuty x = of(SIX);
        still(x, () -> due("none", x.undo(), false));
        // nothing of this is a thing done
        x.nights(0);
        x.nights(31);
        x.morning();
        x.swap(0, 1);
        x.deposit(0, false);
        x.deposit(0, true);
        x.lodge(0, -1);
        x.lodge(0, 9);
        x.restore(0);
        x.tell(0);
        x.forget();
        x.hold(0);
        x.restore(0);
        x.poorBy(0);
        x.year(0, 3, 3);
        x.swaps(0);
        still(x, () -> due("none", x.undo(), false));
        x.lodge(0, 0);
        due("one", x.undo(), true);
        still(x, () -> due("none", x.undo(), false));
        due("at an empty border", new DreamDuty().undo(), false);
    }
}
