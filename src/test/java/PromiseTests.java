/** Promises 1 and 6 to 33, a method each: ordinary inputs, edges, wrong inputs. */
public final class PromiseTests extends Check {
    // Fox gives teeth alone, owl sea three times of four: but for owl no lot decides.
    private static final String BORDER = "thing sea 2;thing teeth 9;thing aunt 5;inn fox 4 2 1;inn owl 7 1 0;"
            + "gives fox sea 0;gives fox aunt 0;gives owl sea 3;gives owl teeth 0;"
            + "guest ann 50 100 1;guest bob 30 0 2;guest cid 20 100 3;twins ann bob;"
            + "post pa fox;post pb fox owl;much=2+cheese;owes=tariff*units+twice*10+alike;shows=100;fine 3;";

    // Ten lots for three guests: a by 0, b by 1 and 2, c by 3 to 5, d by 6 to 9.
    private static final String LOTS = "thing a 1;thing b 2;thing c 3;thing d 4;inn i 1 3 0;gives i b 2;gives i c 3;"
            + "gives i d 4;guest x 100 50 0;guest y 100 50 0;guest z 100 50 0;seed 77;shows=50;owes=tariff;";

    public static void main(String[] args) {
        p1();
        p6();
        p7();
        p8();
        p9();
        p10();
        p10Lots();
        p10Much();
        p11();
        p11Lots();
        p12();
        p13();
        p14();
        p15();
        laws();
        p16();
        p17();
        p18and19();
        p20();
        p21();
        p22();
        p23();
        p24();
        p25();
        p26and27();
        p28to30();
        p31and32();
        p33();
        end();
    }

    private static void p1() {
        DreamDuty x = new DreamDuty();
        due("NONE", DreamDuty.NONE, -1);
        int[] counts = {0, 0, 0, 0, 0, 0, 0, 0, 0, 0, 0, 0, 2, -1};
        for (int what = 0; what < counts.length; what++) due("count " + what, x.count(what), counts[what]);
        due("place", x.place(), -1);
        due("guest", x.guest(0, 0), -100000);
        due("inn", x.inn(0, 0), -1);
        due("lodging", x.lodging(1), -1);
        due("declares", x.declares(-1), 1);
        due("declares", x.declares(0), 0);
        due("posts", x.posts(0), 0);
        due("undo", x.undo(), false);
        due("restore", x.restore(0), false);
        due("forget", x.forget(), 0);
        due("nights", x.nights(30), 30);
        // two objects have nothing in common
        DreamDuty y = of(BORDER);
        y.lodge(0, 0);
        due("count of the other", x.count(2), 0);
    }

    private static void p6() {
        DreamDuty x = of(BORDER);
        int[] first = {50, -2, -2, -2, 0, 0, 0, 0, -100000};
        for (int what = 0; what < 9; what++) due("p6 guest 0 " + what, x.guest(0, what), first[what]);
        x.lodge(1, 0);
        x.nights(1);
        int[] then = {26, 0, 1, 3, 27, 0, 0, 0};
        for (int what = 0; what < 8; what++) due("p6 guest 1 " + what, x.guest(1, what), then[what]);
        // both dream it behind the other one, so both are twice, and one is alike: the lesser number pays
        x.lodge(0, 0);
        x.deposit(1, false);
        x.nights(1);
        due("p6 ann owes", x.guest(0, 4), 38);
        due("p6 bob owes", x.guest(1, 4), 0);
        x.morning();
        due("p6 bob seen", x.guest(1, 7), 1);
        due("p6 bob declared", x.guest(1, 6), 0);
        due("p6 ann declared", x.guest(0, 6), 1);
        due("p6 bob deposit", x.guest(1, 5), 1);
        due("p6 bob's coins", x.guest(1, 0), 30 - 8);
        due("p6 ann's coins", x.guest(0, 0), 50 - 4 - 38);
        x.nights(1);
        x.swap(0, 2);
        due("p6 bob owes, his twin has none", x.guest(1, 4), 38);
        x.morning();
        due("p6 coins below 0", x.guest(1, 0), 30 - 12 - 3 * 38);
        for (int w : WILD) {
            due("p6 wild", x.guest(w, 0), -100000);
            due("p6 wild", x.guest(0, w), -100000);
        }
        due("p6", x.guest(-1, 0), -100000);
        due("p6", x.guest(3, 0), -100000);
        due("p6", x.guest(0, -1), -100000);
        // twins who owe the same: the lesser number pays
        DreamDuty y = of("thing a 5;inn i 0 3 0;guest g 9 0 0;guest h 9 0 0;guest k 9 0 0;twins k g;");
        for (int g = 0; g < 3; g++) y.lodge(g, 0);
        y.nights(1);
        due("p6 alike twin 0", y.guest(0, 4), 5);
        due("p6 alike twin 2", y.guest(2, 4), 0);
        due("p6 no twin", y.guest(1, 4), 5);
        y.deposit(0, false);
        due("p6 twin without a dream", y.guest(2, 4), 5);
        due("p6 none", y.guest(0, 4), 0);
        // held to 0 .. 999
        y = of("thing a 99;inn i 0 3 0;guest g 9 0 0;guest h 9 0 5;much=99;owes=if degree<1 then 0-7 else tariff*units;");
        y.lodge(0, 0);
        y.lodge(1, 0);
        y.nights(1);
        due("p6 least", y.guest(0, 4), 0);
        due("p6 most", y.guest(1, 4), 999);
    }

    private static void p7() {
        DreamDuty x = of(BORDER);
        int[] first = {0, 2, -2, -2, 1, -1};
        for (int what = 0; what < 6; what++) due("p7 inn 0 " + what, x.inn(0, what), first[what]);
        due("p7 inn 1 4", x.inn(1, 4), 4);
        x.lodge(0, 0);
        x.lodge(2, 0);
        due("p7 lodged", x.inn(0, 0), 5);
        due("p7 free", x.inn(0, 1), 0);
        x.nights(1);
        due("p7 last", x.inn(0, 2), 1);
        due("p7 by", x.inn(0, 3), 2);
        x.morning();
        x.lodge(2, -1);
        due("p7 last stays", x.inn(0, 2), 1);
        due("p7 by stays", x.inn(0, 3), 2);
        due("p7 lodged", x.inn(0, 0), 1);
        due("p7 free", x.inn(0, 1), 1);
        due("p7 the other inn", x.inn(1, 2), -2);
        for (int w : WILD) {
            due("p7 wild", x.inn(w, 0), -1);
            due("p7 wild", x.inn(0, w), -1);
        }
        due("p7", x.inn(-1, 0), -1);
        due("p7", x.inn(2, 0), -1);
        due("p7", x.inn(0, -1), -1);
    }

    private static void p8() {
        DreamDuty x = of(BORDER);
        int[][] all = {{0, 1, 0}, {3, 0, 1}};
        for (int inn = 0; inn < 2; inn++) {
            for (int thing = 0; thing < 3; thing++) due("p8 gives", x.gives(inn, thing), all[inn][thing]);
        }
        due("p8", x.gives(2, 0), -1);
        due("p8", x.gives(0, 3), -1);
        due("p8", x.gives(-1, 0), -1);
        due("p8", x.gives(0, -1), -1);
        for (int w : WILD) {
            due("p8 wild", x.gives(w, 0), -1);
            due("p8 wild", x.gives(0, w), -1);
        }
    }

    private static void p9() {
        DreamDuty x = of(BORDER);
        due("p9 nowhere already", x.lodge(0, -1), false);
        DreamDuty y = of("inn i 0 1 0;guest g 1 1 1;guest h 1 1 1;");
        due("p9 the only bed", y.lodge(1, 0), true);
        due("p9 no bed in the first inn", y.lodge(0, 0), false);
        due("p9", x.lodge(0, 1), true);
        due("p9 so already", x.lodge(0, 1), false);
        due("p9 no bed", x.lodge(1, 1), false);
        due("p9 goes over", x.lodge(0, 0), true);
        due("p9 bed is free again", x.lodge(1, 1), true);
        due("p9 goes", x.lodge(1, -1), true);
        due("p9 goes twice", x.lodge(1, -1), false);
        due("p9 where", x.guest(1, 1), -2);
        due("p9 no inn", x.lodge(0, 2), false);
        due("p9 no guest", x.lodge(3, 0), false);
        due("p9 no guest", x.lodge(-1, 0), false);
        for (int w : WILD) {
            due("p9 wild", x.lodge(w, 0), false);
            due("p9 wild", x.lodge(0, w), false);
        }
        due("p9 where", x.guest(0, 1), 0);
        due("p9 done", x.count(9), 4);
        due("p9 no coins go", x.guest(0, 0), 50);
    }

    private static void p10() {
        DreamDuty x = of(BORDER);
        x.lodge(0, 0);
        due("p10 none", x.nights(0), 0);
        due("p10 no thing done", x.count(9), 1);
        due("p10", x.nights(2), 2);
        due("p10 one thing done", x.count(9), 2);
        due("p10 coins", x.guest(0, 0), 42);
        due("p10 to inns", x.count(6), 8);
        due("p10 nothing at the customs", x.count(5), 0);
        due("p10 nowhere", x.guest(1, 2), -2);
        due("p10 too many", x.nights(31), -1);
        due("p10 below", x.nights(-1), -1);
        for (int w : WILD) due("p10 wild", x.nights(w), -1);
        due("p10 most", x.nights(30), 32);
        due("p10 coins below 0", x.guest(0, 0), 50 - 4 * 32);
        // by himself it is not twice
        due("p10 units", x.guest(0, 3), 3);
        due("p10 owes", x.guest(0, 4), 27);
        // who goes keeps his dream, and a night elsewhere is in its place
        x.lodge(0, -1);
        x.nights(1);
        due("p10 keeps it", x.guest(0, 2), 1);
        // an inn whose weights are nothing takes the dream that was there, and keeps what was dreamt last
        DreamDuty y = of("thing a 1;inn i 1 1 0;inn j 1 1 0;gives j a 0;guest g 5 0 0;");
        y.lodge(0, 0);
        y.nights(1);
        due("p10 dream", y.guest(0, 2), 0);
        y.lodge(0, 1);
        y.nights(1);
        due("p10 none", y.guest(0, 2), -2);
        due("p10 pays", y.guest(0, 0), 3);
        due("p10 last", y.inn(1, 2), -2);
        due("p10 last", y.inn(0, 2), 0);
        due("p10 no things", of("inn i 3 1 0;guest g 5 0 0;").nights(4), 4);
    }

    private static void p10Lots() {
        int[][] dreamt = {{1, 2, 2}, {1, 3, 0}, {3, 2, 3}, {3, 2, 3}};
        DreamDuty x = of(LOTS);
        for (int g = 0; g < 3; g++) x.lodge(g, 0);
        for (int night = 0; night < 4; night++) {
            x.nights(1);
            for (int g = 0; g < 3; g++) due("p10 lot " + night + " " + g, x.guest(g, 2), dreamt[night][g]);
        }
        int[][] others = {{2, 3, 1}, {3, 2, 2}, {3, 3, 3}, {1, 1, 1}};
        x = of(LOTS + "seed 9999;");
        for (int g = 0; g < 3; g++) x.lodge(g, 0);
        for (int night = 0; night < 4; night++) {
            x.nights(1);
            for (int g = 0; g < 3; g++) due("p10 lot of 9999 " + night + " " + g, x.guest(g, 2), others[night][g]);
        }
    }

    private static void p10Much() {
        // 1 more a night, 10 if twice, 20 for each alike; units are 0, the tariff 3, the thing 0
        DreamDuty x = of("thing a 3;inn i 0 3 4;guest g 9 7 2;guest h 9 7 2;guest k 9 7 2;much=night+10*twice+20*alike+units;owes=twice;");
        x.lodge(0, 0);
        x.lodge(1, 0);
        x.nights(1);
        due("p10 first", x.guest(0, 3), 0);
        due("p10 second is twice, one alike", x.guest(1, 3), 30);
        due("p10 twice", x.guest(0, 4), 0);
        due("p10 twice", x.guest(1, 4), 1);
        x.nights(1);
        due("p10 first is twice now", x.guest(0, 3), 31);
        due("p10 second", x.guest(1, 3), 31);
        x.lodge(0, -1);
        x.nights(1);
        due("p10 by himself last", x.guest(1, 3), 22);
        x.deposit(0, false);
        x.nights(1);
        due("p10 none alike", x.guest(1, 3), 3);
        // held to 0 .. 99
        x = of("thing a 3;inn i 0 3 4;guest g 9 7 2;guest h 9 7 8;much=if degree<3 then 5-6 else 100;");
        x.lodge(0, 0);
        x.lodge(1, 0);
        x.nights(1);
        due("p10 least", x.guest(0, 3), 0);
        due("p10 most", x.guest(1, 3), 99);
        x = of("thing b 0;thing a 3;inn j 0 1 0;inn i 0 3 4;gives i b 0;guest g 9 7 2;much=tariff+10*cheese+5*degree+honest+2*which;");
        x.lodge(0, 1);
        x.nights(1);
        due("p10 all variables", x.guest(0, 3), 3 + 40 + 10 + 7 + 2);
    }

    private static void p11() {
        DreamDuty x = of(BORDER);
        due("p11 nobody", x.morning(), -2);
        x.lodge(0, 0);
        x.lodge(1, 0);
        due("p11 nobody yet", x.morning(), -2);
        due("p11 nothing done", x.count(9), 2);
        x.nights(1);
        due("p11", x.morning(), 3 * 38);
        due("p11 done", x.count(9), 4);
        due("p11 all dreams gone", x.count(7), 0);
        due("p11 paid", x.count(5), 114);
        due("p11 nobody", x.morning(), -2);
        x.nights(1);
        // both are twice now, 38 each: the lesser number pays, and ann declares
        due("p11 again", x.morning(), 38);
        due("p11 paid", x.count(5), 152);
        due("p11 ann", x.guest(0, 0), 50 - 8 - 38);
        due("p11 declared", x.guest(0, 6), 2);
        due("p11 seen", x.guest(1, 7), 2);
        due("p11 the night stays", x.count(4), 2);
        // what is on deposit stays
        x.nights(1);
        x.deposit(0, false);
        x.morning();
        due("p11 deposit", x.guest(0, 5), 1);
        // shows nothing, declares nothing
        DreamDuty y = of("thing a 5;inn i 1 1 0;guest g 9 0 0;shows=0-5;");
        y.lodge(0, 0);
        y.nights(1);
        due("p11 slips by", y.morning(), 0);
        due("p11 declared", y.guest(0, 6), 0);
        due("p11 seen", y.guest(0, 7), 0);
        due("p11 coins", y.guest(0, 0), 8);
    }

    private static void p11Lots() {
        DreamDuty x = of(LOTS);
        for (int g = 0; g < 3; g++) x.lodge(g, 0);
        x.nights(1);
        // lots 82, 94, 85, then 84, 1, 56: the second is seen, and pays twice 3
        due("p11 lots", x.morning(), 6);
        due("p11 seen", x.guest(1, 7), 1);
        due("p11 coins", x.guest(1, 0), 93);
        x.nights(1);
        // lots 32, 29, 32: all declare 2, 4 and 1
        due("p11 lots", x.morning(), 7);
        for (int g = 0; g < 3; g++) due("p11 declared", x.guest(g, 6), 1);
        due("p11 all", x.count(5), 13);
        x.nights(1);
        // lots 11, 61, 60, then 41, 48, 43: the first declares, the others are seen
        due("p11 lots", x.morning(), 4 + 2 * 3 + 2 * 4);
        x.nights(1);
        // lots 76, 56, 67, then 22, 83, 54: the first is seen, the others slip by
        due("p11 lots", x.morning(), 2 * 4);
        int[] declared = {2, 1, 1};
        int[] seen = {1, 2, 1};
        for (int g = 0; g < 3; g++) {
            due("p11 declared", x.guest(g, 6), declared[g]);
            due("p11 seen", x.guest(g, 7), seen[g]);
        }
        // a lot that is the honesty itself does not declare: 85 of the third on the first morning
        for (int honest = 84; honest < 88; honest++) {
            x = of(LOTS.replace("guest z 100 50", "guest z 100 " + honest));
            x.lodge(2, 0);
            x.nights(1);
            x.morning();
            due("p11 honest " + honest, x.guest(2, 6), honest > 85 ? 1 : 0);
        }
        // nor is he seen by one that is what shows: 56
        for (int shows = 55; shows < 59; shows++) {
            x = of(LOTS + "shows=" + shows + ";");
            x.lodge(2, 0);
            x.nights(1);
            x.morning();
            due("p11 shows " + shows, x.guest(2, 7), shows > 56 ? 1 : 0);
        }
    }

    private static void p12() {
        DreamDuty x = of(BORDER);
        due("p12 neither", x.swap(0, 1), false);
        x.lodge(1, 0);
        x.nights(1);
        due("p12 one and the same", x.swap(1, 1), false);
        due("p12 neither", x.swap(0, 2), false);
        due("p12 no such", x.swap(1, 3), false);
        due("p12 no such", x.swap(3, 1), false);
        due("p12 no such", x.swap(-1, 1), false);
        for (int w : WILD) {
            due("p12 wild", x.swap(w, 1), false);
            due("p12 wild", x.swap(1, w), false);
        }
        due("p12 nothing done", x.count(9), 2);
        due("p12", x.swap(1, 2), true);
        due("p12 thing", x.guest(2, 2), 1);
        due("p12 units", x.guest(2, 3), 3);
        due("p12 gone", x.guest(1, 2), -2);
        due("p12 back", x.swap(1, 2), true);
        due("p12 thing", x.guest(1, 2), 1);
        due("p12 done", x.count(9), 4);
        // that it was twice goes along
        x.lodge(0, 0);
        x.nights(1);
        x.deposit(0, false);
        due("p12 twice", x.guest(1, 4), 37);
        x.swap(1, 2);
        due("p12 twice", x.guest(2, 4), 37);
        // both have one
        DreamDuty y = of("thing a 1;thing b 1;inn i 0 1 0;inn j 0 1 0;gives i b 0;gives j a 0;guest g 1 1 1;guest h 1 1 1;much=which+5;");
        y.lodge(0, 0);
        y.lodge(1, 1);
        y.nights(1);
        due("p12 both", y.swap(0, 1), true);
        due("p12 both", y.guest(0, 2), 1);
        due("p12 both", y.guest(0, 3), 6);
        due("p12 both", y.guest(1, 2), 0);
        due("p12 both", y.guest(1, 3), 5);
    }

    private static void p13() {
        DreamDuty x = of("thing a 1;thing b 1;inn i 0 2 0;gives i b 0;guest g 1 1 1;guest h 1 1 1;much=night+10;");
        due("p13 no dream", x.deposit(0, false), -2);
        due("p13 none there", x.deposit(0, true), -2);
        x.lodge(0, 0);
        for (int n = 1; n <= 5; n++) {
            x.nights(1);
            due("p13 leaves " + n, x.deposit(0, false), n);
            due("p13 gone", x.guest(0, 2), -2);
        }
        x.nights(1);
        due("p13 five there", x.deposit(0, false), -2);
        due("p13 has one", x.deposit(0, true), -2);
        due("p13 done", x.count(9), 12);
        x.morning();
        for (int n = 4; n >= 0; n--) {
            due("p13 takes " + n, x.deposit(0, true), n);
            due("p13 the last one", x.guest(0, 3), 10 + n);
            due("p13 has one", x.deposit(0, true), -2);
            x.morning();
        }
        due("p13 none there", x.deposit(0, true), -2);
        due("p13 no such", x.deposit(2, false), -1);
        due("p13 no such", x.deposit(-1, true), -1);
        for (int w : WILD) {
            due("p13 wild", x.deposit(w, true), -1);
            due("p13 wild", x.deposit(w, false), -1);
        }
    }

    private static void p14() {
        DreamDuty x = of(BORDER);
        due("p14 none", x.undo(), false);
        x.lodge(0, 0);
        x.lodge(1, 0);
        x.nights(3);
        x.deposit(0, false);
        x.deposit(0, true);
        x.swap(0, 2);
        x.morning();
        due("p14 done", x.count(9), 7);
        due("p14 morning", x.undo(), true);
        due("p14", x.guest(2, 2), 1);
        due("p14", x.count(5), 0);
        due("p14 swap", x.undo(), true);
        due("p14", x.guest(0, 2), 1);
        due("p14 taken back", x.undo(), true);
        due("p14", x.guest(0, 5), 1);
        due("p14 deposit", x.undo(), true);
        due("p14", x.guest(0, 5), 0);
        due("p14 nights", x.undo(), true);
        due("p14", x.count(4), 0);
        due("p14", x.inn(0, 2), -2);
        due("p14", x.inn(0, 3), -2);
        due("p14", x.count(6), 0);
        due("p14", x.guest(0, 0), 50);
        due("p14 lodge", x.undo(), true);
        due("p14", x.guest(1, 1), -2);
        due("p14 done", x.count(9), 1);
        due("p14 lodge", x.undo(), true);
        due("p14 none", x.undo(), false);
        // the last forty
        for (int n = 1; n <= 45; n++) due("p14 nights", x.nights(1), n);
        due("p14 done", x.count(9), 40);
        for (int n = 44; n >= 5; n--) {
            due("p14 undo", x.undo(), true);
            due("p14 night", x.count(4), n);
        }
        due("p14 none", x.undo(), false);
        due("p14 night", x.count(4), 5);
        // what is on deposit comes back as it was
        DreamDuty y = of("thing a 1;inn i 0 2 0;guest g 1 1 1;much=night+10;");
        y.lodge(0, 0);
        y.nights(1);
        y.deposit(0, false);
        y.hold(0);
        y.deposit(0, true);
        y.nights(1);
        y.deposit(0, false);
        for (int n = 0; n < 3; n++) y.undo();
        y.deposit(0, true);
        due("p14 deposit as it was", y.guest(0, 3), 10);
        y.nights(1);
        y.deposit(0, false);
        y.restore(0);
        y.deposit(0, true);
        due("p32 deposit as it was", y.guest(0, 3), 10);
        // what is told and held is not undone
        x.lodge(0, 0);
        x.tell(0);
        x.hold(0);
        x.undo();
        due("p14 told", x.count(10), 1);
        due("p14 held", x.count(11), 1);
    }

    private static void p15() {
        DreamDuty x = of(BORDER);
        due("p15 nowhere", x.owes(0, 1, 5), 45);
        due("p15 least", x.owes(0, 1, 0), 0);
        due("p15 most units", x.owes(0, 1, 99), 891);
        due("p15 too many", x.owes(0, 1, 100), -1);
        due("p15 below", x.owes(0, 1, -1), -1);
        x.lodge(0, 0);
        x.lodge(1, 0);
        x.nights(1);
        // bob dreamt it last there: by another one for ann, not for bob himself; and one is alike
        due("p15 twice", x.owes(0, 1, 1), 9 + 10 + 1);
        due("p15 not twice", x.owes(1, 1, 1), 9 + 1);
        due("p15 nowhere, two alike", x.owes(2, 1, 1), 9 + 2);
        due("p15 another thing", x.owes(0, 0, 1), 2);
        x.lodge(0, 1);
        due("p15 another inn", x.owes(0, 1, 1), 9 + 1);
        due("p15 no such guest", x.owes(3, 0, 1), -1);
        due("p15 no such guest", x.owes(-1, 0, 1), -1);
        due("p15 no such thing", x.owes(0, 3, 1), -1);
        due("p15 no such thing", x.owes(0, -1, 1), -1);
        for (int w : WILD) {
            due("p15 wild", x.owes(w, 0, 1), -1);
            due("p15 wild", x.owes(0, w, 1), -1);
            due("p15 wild", x.owes(0, 0, w), -1);
        }
        due("p15 cheese of his inn", of("thing a 1;inn i 1 1 4;guest g 1 1 1;owes=cheese+3;").owes(0, 0, 1), 3);
    }

    private static void law(String law, int want) {
        DreamDuty x = of("thing z 1;thing a 7;inn i 1 1 5;guest g 1 60 3;owes=" + law + ";");
        due("law " + law, x.owes(0, 1, 20), want);
    }

    private static void laws() {
        law("1+2*3", 7);
        law("(1+2)*3", 9);
        law("20-5-3", 12);
        law("20-(5-3)", 18);
        law("100/7/2", 7);
        law("100/(7/2)", 33);
        law("7/2*2", 6);
        law("2*7/2", 7);
        law("100-2*3*4+10/5-1", 77);
        law("10+(0-7)/2", 7);
        law("10+7/(0-2)", 7);
        law("5/0", 0);
        law("5+5/0", 0);
        law("if 1<2 then 5 else 1/0", 5);
        law("if 2<1 then 1/0 else 6", 6);
        law("if 1/0<2 then 5 else 6", 0);
        law("if 1<1/0 then 5 else 6", 0);
        law("if 2<2 then 5 else 6", 6);
        law("if 3<2 then 5 else if 2<3 then 7 else 8", 7);
        law("if 1<2 then 5 else if 1/0<3 then 7 else 8", 5);
        law("if 3<2 then 5 else if 3<2 then 7 else if 3<2 then 9 else if 0<1 then 11 else 12", 11);
        law("if 3<2 then 5 else if 3<2 then 7 else if 3<2 then 9 else if 1<1 then 11 else 12", 12);
        law("if 1+1<(2)*2 then 1+2*3 else 9", 7);
        law("9999*9999*9999", 0);
        law("if 9999*9999*9999<0 then 1 else 2", 1);
        // -2147483648 by -1 wraps
        law("if (0-2048*1024*1024)/(0-1)<0 then 3 else 4", 3);
        law("if 2048*1024*1024<0 then 3 else 4", 3);
        law("((((((1))))))+((((((2))))))", 3);
        law("1*(2+(3*(4-(5-(6/(1+1))))))", 8);
        law("tariff", 7);
        law("units", 20);
        law("cheese", 0);
        law("degree", 3);
        law("honest", 60);
        law("which", 1);
        law("twice", 0);
        law("alike", 0);
        law("night", 0);
        law("999", 999);
        law("1000", 999);
        law("0-1", 0);
        law("tariff*units-degree*which+honest/4", 152);
    }

    private static void p16() {
        DreamDuty x = of(BORDER);
        due("p16 above", x.mean(0, 0, false), 27);
        due("p16 below", x.mean(0, 0, true), 1);
        // owl: sea 3 times 4, aunt once 10, by 4
        due("p16 above", x.mean(0, 1, false), 11);
        due("p16 below", x.mean(0, 1, true), 2);
        x.lodge(0, 0);
        x.nights(1);
        due("p16 his own was the last", x.mean(0, 0, false), 27);
        due("p16 another's was", x.mean(1, 0, false), 27 + 10 + 1);
        due("p16 whatever beds are left", x.mean(1, 1, false), 11);
        due("p16 no such", x.mean(3, 0, false), -1);
        due("p16 no such", x.mean(-1, 0, true), -1);
        due("p16 no such", x.mean(0, 2, false), -1);
        due("p16 no such", x.mean(0, -1, true), -1);
        for (int w : WILD) {
            due("p16 wild", x.mean(w, 0, true), -1);
            due("p16 wild", x.mean(0, w, false), -1);
        }
        DreamDuty y = of("thing a 1;thing b 1;thing c 1;inn i 1 1 4;inn j 0 1 0;gives j a 0;gives j b 0;gives j c 0;guest g 1 1 1;owes=if which<1 then 1 else 0;");
        due("p16 a third", y.mean(0, 0, false), 1);
        due("p16 a third", y.mean(0, 0, true), 3);
        due("p16 no weights", y.mean(0, 1, false), 0);
        due("p16 no weights", y.mean(0, 1, true), 1);
        y = of("thing a 0;thing b 0;inn i 1 1 4;guest g 1 1 1;");
        due("p16 0 by 1", y.mean(0, 0, false), 0);
        due("p16 0 by 1", y.mean(0, 0, true), 1);
        // each duty is held before it is weighed, and so are the units
        y = of("thing a 1;thing b 2;inn i 1 1 4;guest g 1 1 1;much=200;owes=if which<1 then units else 5000;");
        due("p16 held", y.mean(0, 0, false), (99 + 999) / 2);
        due("p16 cheese of that inn", of("thing a 1;inn j 0 1 1;inn i 1 1 4;guest g 1 1 1;owes=cheese;").mean(0, 1, false), 4);
    }

    private static void p17() {
        DreamDuty x = of("thing a 1;thing b 1;thing c 1;thing d 1;inn i 1 1 1;inn j 1 1 1;inn k 1 1 1;"
                + "gives i a 2;gives i b 2;gives i c 0;gives i d 0;gives j a 3;gives j b 2;gives j c 0;gives j d 1;"
                + "gives k a 1;gives k b 1;gives k c 0;gives k d 0;");
        // a: 2/4, 3/6, 1/2; b: 2/4, 2/6, 1/2; d: 0, 1/6, 0
        due("p17 alike", x.sure(0), 0);
        due("p17 alike", x.sure(1), 0);
        due("p17 none", x.sure(2), -2);
        due("p17 one", x.sure(3), 1);
        due("p17 no such", x.sure(4), -1);
        due("p17 no such", x.sure(-1), -1);
        for (int w : WILD) due("p17 wild", x.sure(w), -1);
        due("p17 the share counts, not the weight", of("thing a 1;thing b 1;inn i 1 1 1;inn j 1 1 1;gives i a 8;gives i b 9;gives j a 2;").sure(0), 1);
        due("p17 no inns", of("thing a 1;").sure(0), -2);
    }

    private static void p18and19() {
        DreamDuty x = of(BORDER);
        due("p18 one", x.lodging(1), 12);
        due("p19 one", x.lodgingAt(1, 0), 1);
        due("p18 two", x.lodging(3), 43);
        due("p19 the first to the first inn", x.lodgingAt(3, 0), 0);
        due("p19", x.lodgingAt(3, 1), 1);
        due("p18 three", x.lodging(7), 74);
        due("p19", x.lodgingAt(7, 0), 0);
        due("p19", x.lodgingAt(7, 1), 0);
        due("p19", x.lodgingAt(7, 2), 1);
        due("p19 not so many", x.lodgingAt(7, 3), -1);
        due("p19 below", x.lodgingAt(7, -1), -1);
        due("p18 no such", x.lodging(8), -1);
        due("p18 no such", x.lodging(9), -1);
        due("p18 nobody", x.lodging(0), -1);
        due("p19 nobody", x.lodgingAt(0, 0), -1);
        due("p18 below", x.lodging(-1), -1);
        for (int w : WILD) {
            due("p18 wild", x.lodging(w), -1);
            due("p19 wild", x.lodgingAt(w, 0), -1);
            due("p19 wild", x.lodgingAt(1, w), -1);
        }
        // who is lodged and not of the set has his bed, who is of it has not
        x.lodge(2, 1);
        due("p18 the bed is his", x.lodging(1), 31);
        due("p19", x.lodgingAt(1, 0), 0);
        due("p18 his own bed", x.lodging(4), 12);
        due("p18 together", x.lodging(5), 43);
        due("p18 all beds", x.lodging(3), 62);
        x.lodge(0, 0);
        x.lodge(1, 0);
        due("p18 beds are there for all of the set", x.lodging(7), 74);
        due("p18 nothing happens", x.guest(2, 1), 1);
        DreamDuty y = of("thing a 3;inn i 1 1 0;inn j 1 1 0;guest p 1 1 1;"
                + "guest q 1 1 1;guest r 1 1 1;guest s 1 1 1;guest t 1 1 1;");
        due("p18 not so many beds", y.lodging(7), -2);
        due("p19 not so many beds", y.lodgingAt(7, 0), -2);
        due("p19 looked at first", y.lodgingAt(7, 3), -1);
        due("p18 two beds", y.lodging(24), 8);
        due("p19 alike ones", y.lodgingAt(24, 0), 0);
        due("p19 alike ones", y.lodgingAt(24, 1), 1);
        due("p18 five", y.lodging(31), -1);
        y.lodge(0, 0);
        due("p18 one bed", y.lodging(24), -2);
        due("p18 one bed", y.lodging(8), 4);
        due("p18 no inns", of("guest g 1 1 1;").lodging(1), -2);
        due("p19 no inns", of("guest g 1 1 1;").lodgingAt(1, 0), -2);
        // 3 guests, a third each: a whole coin together; a half and a third are less than one
        DreamDuty z = of("thing a 1;thing b 1;thing c 1;inn i 0 4 0;inn j 0 1 0;gives j c 0;guest g 1 1 1;guest h 1 1 1;guest k 1 1 1;"
                + "owes=if which<1 then 1 else 0;");
        due("p18 thirds", z.lodging(7), 1);
        due("p19 all in the first", z.lodgingAt(7, 2), 0);
        due("p18 two thirds", z.lodging(3), 0);
    }

    private static void p20() {
        DreamDuty x = of(BORDER);
        due("p20 nobody", x.swaps(0), 0);
        due("p20 nobody", x.swaps(1), 0);
        due("p20 nobody", x.swaps(2), -2);
        // duty by units and degree: who has the more of one had better have the less of the other
        DreamDuty y = of("thing a 1;thing b 1;inn i 0 1 0;inn j 0 1 0;gives i b 0;gives j a 0;guest g 1 1 1;guest h 1 1 5;much=1+9*which;owes=units*degree;");
        y.lodge(0, 0);
        y.lodge(1, 1);
        y.nights(1);
        due("p20 now", y.guest(0, 4) + y.guest(1, 4), 51);
        due("p20 sum", y.swaps(0), 15);
        due("p20 how many", y.swaps(1), 1);
        due("p20 first", y.swaps(2), 1);
        y.swap(0, 1);
        due("p20 no better", y.swaps(0), 15);
        due("p20 none", y.swaps(1), 0);
        due("p20 none", y.swaps(2), -2);
        due("p20 others", y.swaps(3), -1);
        due("p20 others", y.swaps(-1), -1);
        for (int w : WILD) due("p20 wild", y.swaps(w), -1);
        // alike ones: the first by number
        String five = "thing a 1;thing b 1;inn i 0 7 0;inn j 0 7 0;gives i b 0;gives j a 0;guest g 1 1 1;guest h 1 1 1;guest k 1 1 5;guest l 1 1 5;"
                + "much=1+9*which;owes=units*degree;";
        DreamDuty z = of(five);
        z.lodge(0, 0);
        z.lodge(1, 0);
        z.lodge(2, 1);
        z.lodge(3, 1);
        z.nights(1);
        due("p20 sum", z.swaps(0), 30);
        due("p20 two", z.swaps(1), 2);
        due("p20 0 and 2, 1 and 3 ahead of 0 and 3", z.swaps(2), 2);
        // one who has no dream changes none
        z.deposit(0, false);
        due("p20 without him", z.swaps(0), 10 + 5 + 50);
        due("p20 one swap", z.swaps(1), 1);
        due("p20 first", z.swaps(2), 12);
        due("p20 nothing happens", z.guest(1, 2), 0);
        // each once, at most: three in a ring would owe nothing
        DreamDuty r = of("thing a 1;thing b 1;thing c 1;inn i 0 1 0;inn j 0 1 0;inn k 0 1 0;gives i a 0;gives i c 0;gives j a 0;gives j b 0;"
                + "gives k b 0;gives k c 0;guest g 1 1 0;guest h 1 1 1;guest l 1 1 2;"
                + "owes=(which-degree)*(which-degree);");
        for (int g = 0; g < 3; g++) r.lodge(g, g);
        r.nights(1);
        due("p20 ring now", r.guest(0, 4) + r.guest(1, 4) + r.guest(2, 4), 6);
        due("p20 ring", r.swaps(0), 2);
        due("p20 ring", r.swaps(1), 1);
        due("p20 ring", r.swaps(2), 2);
        // twins are weighed as one
        DreamDuty t = of(five + "twins k l;");
        for (int g = 0; g < 4; g++) t.lodge(g, g / 2);
        t.nights(1);
        // 1 and 1 and 50 now; both twins change: 10 and 10 and 5
        due("p20 twins", t.swaps(0), 25);
        due("p20 twins", t.swaps(1), 2);
    }

    private static void p21() {
        DreamDuty x = of(BORDER);
        due("p21 nobody", x.declares(-1), 1);
        due("p21 nobody", x.declares(0), 0);
        due("p21 not so many", x.declares(1), -1);
        x.lodge(0, 0);
        x.lodge(1, 0);
        x.nights(1);
        due("p21", x.declares(-1), 2);
        due("p21", x.declares(0), 0);
        due("p21", x.declares(1), 1);
        due("p21 not so many", x.declares(2), -1);
        due("p21 below", x.declares(-2), -1);
        for (int w : WILD) due("p21 wild", x.declares(w), -1);
        // owes 4 each; hiding costs 2 * 4 * 25 / 100 = 2, and 1 for each other one: 2, 3, 4, 5
        DreamDuty y = of("thing a 4;inn i 0 7 0;guest g 1 1 1;guest h 1 1 1;guest k 1 1 1;guest l 1 1 1;shows=25;");
        for (int g = 0; g < 4; g++) y.lodge(g, 0);
        y.nights(1);
        // three pay 4 each, the same as declaring; a fourth would pay 5. Two pay 3, a third would pay 4, the same
        due("p21 rests", y.declares(-1), 10);
        int[] sets = {3, 5, 6, 7, 9, 10, 11, 12, 13, 14};
        for (int i = 0; i < sets.length; i++) due("p21 set " + i, y.declares(i), sets[i]);
        // by hundredths: 2 * 3 * 51 / 100 is more than 3, 50 is the same
        for (int shows = 49; shows <= 51; shows++) {
            DreamDuty z = of("thing a 3;inn i 0 7 0;guest g 1 1 1;shows=" + shows + ";");
            z.lodge(0, 0);
            z.nights(1);
            due("p21 hundredths", z.declares(-1), shows == 50 ? 2 : 1);
            due("p21 hundredths", z.declares(0), shows < 50 ? 1 : 0);
        }
        // some rest that need several: the first by bits
        y.deposit(0, false);
        due("p21 who has none hides none", y.declares(0), 6);
    }

    private static void p22() {
        DreamDuty x = of("inn i 1 2 1;inn j 1 1 1;inn k 1 1 1;inn l 1 1 1;guest a 1 1 1;guest b 1 1 1;guest c 1 1 1;"
                + "post p i;post q i j;post r j k;post s i j;");
        due("p22 nobody", x.posts(0), 0);
        due("p22 nobody", x.posts(1), 0);
        x.lodge(0, 0);
        due("p22 one", x.posts(0), 1);
        due("p22 the least", x.posts(1), 1);
        x.lodge(1, 1);
        due("p22 one for two", x.posts(0), 1);
        due("p22 the least", x.posts(1), 2);
        x.lodge(2, 2);
        due("p22 two", x.posts(0), 2);
        due("p22 the least", x.posts(1), 5);
        x.lodge(2, 3);
        due("p22 by none", x.posts(0), -2);
        due("p22 by none", x.posts(1), -2);
        due("p22 others", x.posts(2), -1);
        due("p22 others", x.posts(-1), -1);
        for (int w : WILD) due("p22 wild", x.posts(w), -1);
        // fewer are better than lesser bits
        DreamDuty y = of("inn i 1 2 1;inn j 1 1 1;guest a 1 1 1;guest b 1 1 1;post p i;post q j;post r i j;");
        y.lodge(0, 0);
        y.lodge(1, 1);
        due("p22 fewest", y.posts(0), 1);
        due("p22 fewest", y.posts(1), 4);
    }

    private static void p23() {
        DreamDuty x = of(BORDER);
        x.lodge(0, 0);
        x.lodge(1, 0);
        due("p23", x.year(0, 1, 2), 92);
        due("p23", x.year(1, 1, 1), -88);
        due("p23 nowhere", x.year(2, 5, 3), 60);
        due("p23 no nights", x.year(0, 0, 20), 1000);
        due("p23 nothing happens", x.count(4), 0);
        due("p23 nothing happens", x.count(9), 2);
        due("p23 no such guest", x.year(3, 1, 1), -100000);
        due("p23 no such guest", x.year(-1, 1, 1), -100000);
        due("p23 nights below", x.year(0, -1, 1), -100000);
        due("p23 too many nights", x.year(0, 31, 1), -100000);
        due("p23 most nights", x.year(2, 30, 1), 20);
        due("p23 no seeds", x.year(0, 1, 0), -100000);
        due("p23 too many seeds", x.year(0, 1, 21), -100000);
        due("p23 most seeds", x.year(2, 1, 20), 400);
        for (int w : WILD) {
            due("p23 wild", x.year(w, 1, 1), -100000);
            due("p23 wild", x.year(0, w, 1), -100000);
            due("p23 wild", x.year(0, 1, w), -100000);
        }
        // by hand it comes to the same
        x = of(LOTS);
        for (int g = 0; g < 3; g++) x.lodge(g, 0);
        due("p23 two nights", x.year(0, 2, 1), 100 - 2 - 2);
        due("p23 two nights", x.year(1, 2, 1), 100 - 2 - 6 - 4);
        due("p23 two nights", x.year(2, 2, 1), 100 - 2 - 1);
        // seeds 77 and 78 and 79, one by one
        int[] all = new int[3];
        for (int seed = 77; seed < 80; seed++) {
            DreamDuty y = of(LOTS + "seed " + seed + ";");
            for (int g = 0; g < 3; g++) y.lodge(g, 0);
            for (int night = 0; night < 6; night++) {
                y.nights(1);
                y.morning();
            }
            for (int g = 0; g < 3; g++) all[g] += y.guest(g, 0);
        }
        for (int g = 0; g < 3; g++) due("p23 three seeds", x.year(g, 6, 3), all[g]);
        // from now on: a dream that is there already is in place of the first night's
        x.nights(1);
        x.lodge(0, -1);
        due("p23 from now on", x.year(0, 1, 1), x.year(0, 2, 1));
    }

    private static void p24() {
        DreamDuty x = of("thing a 0;inn i 1 6 0;inn j 0 6 0;guest g 100 0 0;guest h 99 0 0;guest k 3 0 0;guest l 0 0 0;");
        for (int g = 0; g < 4; g++) x.lodge(g, 0);
        due("p24 100 nights leave 0", x.poorBy(0), -2);
        due("p24 the hundredth", x.poorBy(1), 100);
        due("p24 the fourth", x.poorBy(2), 4);
        due("p24 the first", x.poorBy(3), 1);
        x.nights(1);
        due("p24 already", x.poorBy(3), 0);
        due("p24 from now on", x.poorBy(2), 3);
        x.lodge(2, 1);
        due("p24 for nothing", x.poorBy(2), -2);
        due("p24 no such", x.poorBy(4), -1);
        due("p24 no such", x.poorBy(-1), -1);
        for (int w : WILD) due("p24 wild", x.poorBy(w), -1);
        due("p24 nothing happens", x.count(4), 1);
        // the morning behind the night counts
        DreamDuty y = of(BORDER);
        y.lodge(0, 0);
        y.lodge(1, 0);
        due("p24 by the fine", y.poorBy(1), 1);
    }

    private static void p25() {
        DreamDuty x = of("thing a 3;inn i 0 3 4;guest g 9 7 2;guest h 9 7 3;shows=tariff*10+units+cheese+degree+night+alike*5+twice*20;");
        due("p25 no dream", x.shows(0), -2);
        x.lodge(0, 0);
        x.nights(1);
        due("p25", x.shows(0), 30 + 1 + 4 + 2 + 1);
        due("p25 no dream", x.shows(1), -2);
        x.lodge(1, 0);
        x.nights(1);
        due("p25", x.shows(0), 30 + 1 + 4 + 2 + 2 + 5);
        due("p25 twice", x.shows(1), 30 + 1 + 4 + 3 + 2 + 5 + 20);
        x.lodge(1, -1);
        due("p25 no cheese", x.shows(1), 30 + 1 + 3 + 2 + 5 + 20);
        due("p25 no such", x.shows(2), -1);
        due("p25 no such", x.shows(-1), -1);
        for (int w : WILD) due("p25 wild", x.shows(w), -1);
        int[] tells = {0, 100, 99, 100};
        String[] laws = {"0-2", "100", "99", "101"};
        for (int i = 0; i < 4; i++) {
            DreamDuty y = of("thing a 3;inn i 0 3 4;guest g 9 7 2;shows=" + laws[i] + ";");
            y.lodge(0, 0);
            y.nights(1);
            due("p25 held", y.shows(0), tells[i]);
        }
    }

    private static void p26and27() {
        DreamDuty x = of(BORDER);
        due("p26 no such", x.tell(3), -1);
        due("p26 no such", x.tell(-1), -1);
        for (int w : WILD) due("p26 wild", x.tell(w), -1);
        for (int i = 0; i < 20; i++) due("p26", x.tell(i % 3), i);
        due("p26 full", x.tell(0), -1);
        due("p26 told", x.count(10), 20);
        due("p26 no thing done", x.undo(), false);
        due("p27", x.forget(), 20);
        due("p27 none", x.forget(), 0);
        due("p27 told", x.count(10), 0);
        due("p26 anew", x.tell(2), 0);
    }

    private static void p28to30() {
        DreamDuty x = of("thing a 1;thing b 1;thing c 1;inn i 1 2 1;inn j 1 2 1;inn k 1 2 1;guest p 1 1 1;guest q 1 1 1;guest r 1 1 1;"
                + "gives i a 2;gives i b 2;gives i c 0;gives j a 1;gives j b 1;gives j c 1;gives k a 8;gives k b 1;gives k c 1;");
        due("p28 all", x.from(0), 7);
        due("p29 the first", x.likeliest(0), 0);
        due("p30 nobody", x.whose(0), 0);
        due("p28 not told", x.from(1), -1);
        due("p29 not told", x.likeliest(1), -1);
        due("p30 not told", x.whose(1), -1);
        x.lodge(0, 0);
        x.lodge(1, 1);
        x.tell(0);
        x.tell(1);
        x.tell(2);
        // a: 1/2, 1/3, 8/10; and b: 1/4, 1/9, 8/100; and c: 0, 1/27, 8/1000
        due("p28", x.from(1), 7);
        due("p29", x.likeliest(1), 2);
        due("p29", x.likeliest(2), 0);
        due("p28", x.from(3), 6);
        due("p29", x.likeliest(3), 1);
        due("p30 all", x.whose(0), 3);
        due("p30 two", x.whose(2), 3);
        due("p30 one", x.whose(3), 2);
        due("p28 no such", x.from(4), -1);
        due("p28 no such", x.from(-1), -1);
        due("p29 no such", x.likeliest(-1), -1);
        due("p30 no such", x.whose(-1), -1);
        for (int w : WILD) {
            due("p28 wild", x.from(w), -1);
            due("p29 wild", x.likeliest(w), -1);
            due("p30 wild", x.whose(w), -1);
        }
        for (int i = 0; i < 4; i++) x.tell(0);
        due("p29 six", x.likeliest(6), 2);
        due("p29 seven", x.likeliest(7), -1);
        due("p28 seven", x.from(7), 6);
        due("p30 seven", x.whose(7), 2);
        for (int i = 0; i < 13; i++) x.tell(1);
        due("p28 twenty", x.from(20), 6);
        due("p28 more", x.from(21), -1);
        x.forget();
        due("p28 forgotten", x.from(1), -1);
        // none gives both
        DreamDuty y = of("thing a 1;thing b 1;inn i 1 1 1;inn j 1 1 1;gives i a 0;gives j b 0;guest p 1 1 1;");
        y.lodge(0, 0);
        y.tell(0);
        y.tell(1);
        due("p28 none", y.from(2), 0);
        due("p29 none", y.likeliest(2), -2);
        due("p30 none", y.whose(2), 0);
        due("p28 one", y.from(1), 2);
        due("p29 one", y.likeliest(1), 1);
        // products alike: the first
        DreamDuty z = of("thing a 1;thing b 1;inn i 1 1 1;inn j 1 1 1;gives i a 3;gives i b 6;gives j a 6;gives j b 3;");
        z.tell(0);
        z.tell(1);
        due("p29 alike", z.likeliest(2), 0);
        due("p29", z.likeliest(1), 1);
        due("p29 no inns", of("thing a 1;").likeliest(0), -2);
        // the greatest products there are
        String wide = "thing a 1;thing b 1;thing c 1;thing d 1;thing e 1;thing f 1;thing g 1;inn i 1 1 1;inn j 1 1 1;";
        for (String thing : new String[] {"a", "b", "c", "d", "e", "f", "g"}) {
            wide += "gives i " + thing + " 9;gives j " + thing + " 9;";
        }
        DreamDuty w = of(wide + "gives i g 8;");
        for (int i = 0; i < 6; i++) w.tell(0);
        due("p29 9/62 ahead of 9/63", w.likeliest(6), 0);
        w = of(wide + "gives j g 8;");
        for (int i = 0; i < 20; i++) w.tell(i % 6);
        due("p29 9/62 ahead of 9/63", w.likeliest(6), 1);
        due("p28 twenty", w.from(20), 3);
    }

    private static void p31and32() {
        DreamDuty x = of(BORDER);
        due("p32 nothing held", x.restore(0), false);
        due("p31 no such", x.hold(-1), false);
        due("p31 no such", x.hold(3), false);
        due("p32 no such", x.restore(-1), false);
        due("p32 no such", x.restore(3), false);
        for (int w : WILD) {
            due("p31 wild", x.hold(w), false);
            due("p32 wild", x.restore(w), false);
        }
        due("p31", x.hold(2), true);
        x.lodge(0, 0);
        x.lodge(1, 0);
        x.nights(1);
        x.deposit(0, false);
        x.nights(1);
        due("p31", x.hold(0), true);
        due("p31 no thing done", x.count(9), 5);
        int[] held = new int[16];
        for (int i = 0; i < 16; i++) held[i] = x.guest(i / 8, i % 8);
        x.morning();
        x.swap(0, 2);
        x.tell(1);
        x.nights(3);
        x.deposit(1, false);
        due("p32 nothing held", x.restore(1), false);
        due("p32 nothing happens", x.count(9), 8);
        due("p32", x.restore(0), true);
        for (int i = 0; i < 16; i++) due("p32 guest " + i, x.guest(i / 8, i % 8), held[i]);
        due("p32 night", x.count(4), 2);
        due("p32 customs", x.count(5), 0);
        due("p32 inns", x.count(6), 16);
        due("p32 last by", x.inn(0, 3), 1);
        due("p32 told stays", x.count(10), 1);
        due("p32 nothing undone", x.undo(), false);
        due("p32 none", x.count(9), 0);
        // what goes on then does not touch the slot
        x.nights(1);
        x.lodge(0, -1);
        due("p32 again", x.restore(0), true);
        due("p32 night", x.count(4), 2);
        due("p32 lodged", x.guest(0, 1), 0);
        due("p32 the first one", x.restore(2), true);
        due("p32 night", x.count(4), 0);
        due("p32 lodged", x.guest(0, 1), -2);
        due("p32 last", x.inn(0, 2), -2);
        due("p31 over it", x.hold(0), true);
        x.nights(1);
        due("p32 over it", x.restore(0), true);
        due("p32 night", x.count(4), 0);
        due("p32 slots", x.count(11), 2);
    }

    private static void p33() {
        DreamDuty x = of(BORDER);
        x.lodge(0, 0);
        x.lodge(1, 0);
        x.nights(1);
        x.hold(0);
        x.hold(2);
        x.tell(1);
        x.tell(2);
        x.tell(2);
        x.feed(0, 0, 0, 0, 0);
        x.back(7);
        int[] counts = {3, 2, 3, 2, 1, 0, 8, 3, 13, 3, 3, 2, 3};
        for (int what = 0; what < 13; what++) due("p33 count " + what, x.count(what), counts[what]);
        x.morning();
        due("p33 customs", x.count(5), 114);
        due("p33 dreams", x.count(7), 0);
        due("p33 others", x.count(13), -1);
        due("p33 others", x.count(-1), -1);
        for (int w : WILD) due("p33 wild", x.count(w), -1);
    }
}
