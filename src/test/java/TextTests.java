/** Promises 2 to 5: the tape, the texts, their faults. */
public final class TextTests extends Check {
    public static void main(String[] args) {
        tape();
        fullTape();
        goodTexts();
        syntax();
        room();
        twice();
        names();
        wrongNumbers();
        order();
        badTextChangesNothing();
        goodTextStartsAnew();
        defaults();
        end();
    }

    private static void tape() {
        DreamDuty x = new DreamDuty();
        due("place", x.place(), -1);
        due("back(0)", x.back(0), 0);
        due("back(1)", x.back(1), -1);
        due("back(-1)", x.back(-1), -1);
        due("back(min)", x.back(Integer.MIN_VALUE), -1);
        // "fine 9;" and blanks, the highest byte first
        due("feed", x.feed(0x66696e65, 0x20393b20, 0x090a0d20, 0x20202020, 0x20202020), 20);
        due("count(8)", x.count(8), 20);
        due("back(21)", x.back(21), -1);
        due("back(max)", x.back(Integer.MAX_VALUE), -1);
        due("count(8)", x.count(8), 20);
        due("read", x.read(), 0);
        due("count(12)", x.count(12), 9);
        due("count(8)", x.count(8), 0);
        // bytes above 127 are no token
        due("feed", x.feed(0x20e92020, 0, 0, 0, -1), 20);
        due("read", x.read(), 1);
        due("place", x.place(), 1);
        due("feed", x.feed(0x20202020, 0x20202020, 0x20202020, 0x20202020, 0x202020ff), 20);
        due("read", x.read(), 1);
        due("place", x.place(), 19);
        due("read", x.read(), 0);
        due("place", x.place(), -1);
    }

    private static void fullTape() {
        DreamDuty x = new DreamDuty();
        int b = 0x20202020;
        for (int i = 1; i <= 100; i++) due("feed", x.feed(b, b, b, b, b), 20 * i);
        due("feed over", x.feed(b, b, b, b, b), -1);
        due("back", x.back(19), 1981);
        due("feed over", x.feed(b, b, b, b, b), -1);
        due("count(8)", x.count(8), 1981);
        due("back", x.back(1), 1980);
        due("feed", x.feed(b, b, b, b, 0x20203b20), 2000);
        due("read", x.read(), 1);
        due("place", x.place(), 1998);
        for (int i = 1; i <= 100; i++) x.feed(b, b, b, b, b);
        due("read", x.read(), 0);
    }

    private static void goodTexts() {
        good("");
        good(" \t\n\r");
        good("thing a 0;thing abcdefgh 0099;");
        good("thing\ta\n1\r;");
        good("thing a1;inn i1 1 1;");
        good("inn a 99 7 9;inn b 0 1 0;guest c 999 100 9;guest d 0 0 0;twins c d;post e;post f a b;");
        good("fine 1;fine 9;seed 0;seed 9999;");
        good("much=1;owes=night+tariff-units*cheese/degree;shows=honest+which+twice+alike;");
        good("much = if 1 < 2 then 3 else if 1 < 2 then 3 else if 1 < 2 then 3 else if 1 < 2 then 3 else 4 ;");
        good("owes=((((((1))))))+((((((9999))))))*(2);");
        good("much=1;much=2;much=3;");
        good("thing things 1;thing nights 1;thing a 1;");
        // 400 tokens
        good("fine 1;".repeat(130) + "post p;" + "thing a 1;" + "fine 1;");
    }

    private static void syntax() {
        fault(";", 1, 0);
        fault("  x", 1, 2);
        fault("thing", 1, 5);
        fault("thing  ", 1, 7);
        fault("thing a", 1, 7);
        fault("thing a 1", 1, 9);
        fault("thing a 1 \n", 1, 11);
        fault("thing 1 1;", 1, 6);
        fault("thing a b;", 1, 8);
        fault("thing a 1 1;", 1, 10);
        fault("thing a -1;", 1, 8);
        fault("thing night 1;", 1, 6);
        fault("thing if 1;", 1, 6);
        fault("thing thing 1;", 1, 6);
        fault("thinga 1;", 1, 0);
        fault("thing abcdefghi 1;", 1, 6);
        fault("thing a 12345;", 1, 8);
        fault("thing a 00001;", 1, 8);
        fault("Thing a 1;", 1, 0);
        fault("thing a 1.", 1, 9);
        fault("thing a 1;.", 1, 10);
        fault("thing a_b 1;", 1, 7);
        fault("inn i 1 1;", 1, 9);
        fault("inn i 1 1 1 1;", 1, 12);
        fault("gives i t;", 1, 9);
        fault("gives i 1;", 1, 8);
        fault("guest g 1 1;", 1, 11);
        fault("twins a;", 1, 7);
        fault("twins a b c;", 1, 10);
        fault("post;", 1, 4);
        fault("post 1;", 1, 5);
        fault("post p 1;", 1, 7);
        fault("post p thing;", 1, 7);
        fault("post p", 1, 6);
        fault("fine;", 1, 4);
        fault("fine x;", 1, 5);
        fault("seed = 1;", 1, 5);
        fault("much 1;", 1, 5);
        fault("much;", 1, 4);
        fault("much=;", 1, 5);
        fault("much=+1;", 1, 5);
        fault("much=1+;", 1, 7);
        fault("much=1 2;", 1, 7);
        fault("much=1<2;", 1, 6);
        fault("much=x;", 1, 5);
        fault("much=(1;", 1, 7);
        fault("much=();", 1, 6);
        fault("much=1);", 1, 6);
        fault("much=(1<2);", 1, 7);
        fault("much=if 1 then 2 else 3;", 1, 10);
        fault("much=if 1<2 3 else 3;", 1, 12);
        fault("much=if 1<2 then 3;", 1, 18);
        fault("much=if 1<2 then 3 else;", 1, 23);
        fault("much=if 1<2<3 then 3 else 4;", 1, 11);
        fault("much=if (1<2) then 3 else 4;", 1, 10);
        fault("much=(if 1<2 then 3 else 4);", 1, 6);
        fault("much=1+if 1<2 then 3 else 4;", 1, 7);
        fault("much=if 1<2 then if 1<2 then 3 else 4 else 5;", 1, 17);
        fault("much=then;", 1, 5);
        fault("much=thing;", 1, 5);
        fault("owes=1", 1, 6);
    }

    private static void room() {
        String seven = "thing a 1;thing b 1;thing c 1;thing d 1;thing e 1;thing f 1;thing g 1;";
        good(seven);
        fault(seven + "thing", 2, 70);
        fault(seven + " thing h 1;;", 2, 71);
        String five = "inn a 1 1 1;inn b 1 1 1;inn c 1 1 1;inn d 1 1 1;inn e 1 1 1;";
        good(five);
        fault(five + "inn f 1 1 1;", 2, 60);
        String six = "guest a 1 1 1;guest b 1 1 1;guest c 1 1 1;guest d 1 1 1;guest e 1 1 1;guest f 1 1 1;";
        good(six);
        fault(six + "guest g 1 1 1;", 2, 84);
        good(six + "twins a b;twins c d;twins e f;");
        fault(six + "twins a b;twins c d;twins e f;twins a b;", 2, 114);
        // more of a sort comes ahead of the faults that are looked for later
        fault("twins a b;twins a b;twins a b;twins a b;", 2, 30);
        String posts = "post a;post b;post c;post d;post e;post f;";
        good(posts);
        fault(posts + "post g;", 2, 42);
        String four = "if 1<2 then 3 else ".repeat(4);
        good("much=" + four + "1;");
        good("much=" + four + "1;owes=" + four + "1;");
        fault("much=" + four + "if 1<2 then 3 else 1;", 2, 81);
        fault("much=" + four + "if", 2, 81);
        good("much=((((((1))))));");
        fault("much=(((((((1)))))));", 2, 11);
        fault("much=(((((((", 2, 11);
        fault("much=1+((((((1)))))))", 1, 20);
        fault("much=if ((((((1))))))<(((((((1))))))) then 1 else 2;", 2, 28);
        // 400 tokens, and one more
        String most = "fine 1;".repeat(133);
        fault(most + "seed", 1, 935);
        fault(most + "seed 1;", 2, 936);
        fault(most + "seed seed", 1, 936);
        fault(most + "seed 12345", 1, 936);
        fault("fine 1;".repeat(132) + "twins;", 1, 929);
        fault("much=1;" + "fine 1;".repeat(132) + "fine 1;", 2, 931);
        fault("fine 1;".repeat(132) + "fine 0;seed 1;", 2, 936);
    }

    private static void twice() {
        fault("thing a 1;thing a 1;", 3, 16);
        fault("thing a 1;inn a 1 1 1;", 3, 14);
        fault("inn a 1 1 1;guest a 1 1 1;", 3, 18);
        fault("guest a 1 1 1;post a;", 3, 19);
        fault("post a;thing a 1;", 3, 13);
        fault("post a;post a;", 3, 12);
        String guests = "guest a 1 1 1;guest b 1 1 1;guest c 1 1 1;";
        fault(guests + "twins a a;", 3, 50);
        fault(guests + "twins a b;twins a c;", 3, 58);
        fault(guests + "twins a b;twins c b;", 3, 60);
        fault(guests + "twins a b;twins b x;", 3, 58);
        fault("inn a 1 1 1;post p a a;", 3, 21);
        good("inn a 1 1 1;post p a;post q a;");
        fault("thing abcdefgh 1;thing abcdefgg 1;thing abcdefgh 1;", 3, 40);
    }

    private static void names() {
        fault("gives i t 1;", 4, 6);
        fault("inn i 1 1 1;gives i t 1;", 4, 20);
        fault("gives i t 1;inn i 1 1 1;thing t 1;", 4, 6);
        good("inn i 1 1 1;thing t 1;gives i t 1;gives i t 2;");
        fault("inn i 1 1 1;thing t 1;gives t i 1;", 4, 28);
        fault("inn i 1 1 1;inn j 1 1 1;gives i j 1;", 4, 32);
        fault("twins a b;", 4, 6);
        fault("guest a 1 1 1;twins a b;", 4, 22);
        fault("guest a 1 1 1;inn i 1 1 1;twins i a;", 4, 32);
        fault("post p i;", 4, 7);
        fault("post p p;", 4, 7);
        fault("thing t 1;post p t;", 4, 17);
    }

    private static void wrongNumbers() {
        fault("thing a 100;", 5, 8);
        fault("inn i 100 1 1;", 5, 6);
        fault("inn i 99 0 1;", 5, 9);
        fault("inn i 99 8 1;", 5, 9);
        fault("inn i 99 7 10;", 5, 11);
        fault("guest g 1000 1 1;", 5, 8);
        fault("guest g 999 101 1;", 5, 12);
        fault("guest g 999 100 10;", 5, 16);
        fault("inn i 1 1 1;thing t 1;gives i t 10;", 5, 32);
        fault("fine 0;", 5, 5);
        fault("fine 10;", 5, 5);
        good("seed 9999;");
        good("much=9999;");
    }

    private static void order() {
        // the first two faults come ahead of the others, wherever they are
        fault("thing a 100;x", 1, 12);
        fault("thing a 1;thing a 1;inn", 1, 23);
        // of the others the first by place
        fault("thing a 100;thing a 1;", 5, 8);
        fault("thing a 1;thing a 100;", 3, 16);
        fault("gives x y 99;", 4, 6);
        fault("fine 0;twins a b;", 5, 5);
        fault("twins a b;fine 0;", 4, 6);
    }

    private static void badTextChangesNothing() {
        DreamDuty x = of("thing a 3;inn i 2 2 1;guest g 9 100 1;fine 4;");
        x.lodge(0, 0);
        x.nights(1);
        x.hold(1);
        x.tell(0);
        put(x, "thing b 3;thing c 3;thing b 100;");
        due("read", x.read(), 3);
        due("place", x.place(), 26);
        due("count(0)", x.count(0), 1);
        due("count(4)", x.count(4), 1);
        due("count(8)", x.count(8), 0);
        due("count(9)", x.count(9), 2);
        due("count(10)", x.count(10), 1);
        due("count(11)", x.count(11), 1);
        due("count(12)", x.count(12), 4);
        due("owes(0,0,5)", x.owes(0, 0, 5), 15);
        due("guest(0,2)", x.guest(0, 2), 0);
        due("undo", x.undo(), true);
        put(x, "much=");
        due("read", x.read(), 1);
        due("nights(1)", x.nights(1), 1);
        due("guest(0,3)", x.guest(0, 3), 1);
    }

    private static void goodTextStartsAnew() {
        DreamDuty x = of("thing a 3;inn i 2 2 1;guest g 9 100 1;fine 4;much=7;owes=5;shows=9;seed 5;");
        x.lodge(0, 0);
        x.nights(2);
        x.deposit(0, false);
        x.nights(1);
        x.morning();
        x.hold(0);
        x.hold(2);
        x.tell(0);
        put(x, "thing q 6;inn h 1 1 1;guest f 7 0 1;guest r 4 0 0;");
        due("read", x.read(), 0);
        for (int what : new int[] {4, 5, 6, 7, 8, 9, 10, 11}) due("count " + what, x.count(what), 0);
        due("count(2)", x.count(2), 2);
        due("count(12)", x.count(12), 2);
        due("undo", x.undo(), false);
        due("restore", x.restore(0), false);
        due("from(1)", x.from(1), -1);
        int[] of = {7, -2, -2, -2, 0, 0, 0, 0};
        for (int what = 0; what < 8; what++) due("guest " + what, x.guest(0, what), of[what]);
        due("inn(0,2)", x.inn(0, 2), -2);
        due("inn(0,3)", x.inn(0, 3), -2);
        // the laws are the untold ones again
        due("owes", x.owes(0, 0, 2), 12);
        x.lodge(0, 0);
        x.nights(1);
        due("guest(0,3)", x.guest(0, 3), 1);
        due("shows(0)", x.shows(0), 50);
        put(x, "");
        due("read", x.read(), 0);
        due("count(2)", x.count(2), 0);
        nothingStaysOfFormerTexts();
    }

    // What is told in one text, or half told in one with a fault, is not told in the next ones.
    private static void nothingStaysOfFormerTexts() {
        DreamDuty x = new DreamDuty();
        String plain = "thing a 2;thing b 4;inn i 0 1 1;guest g 1 1 1;guest h 1 1 1;post p;";
        for (int i = 0; i < 6; i++) {
            put(x, plain);
            due("read", x.read(), 0);
            due("owes", x.owes(0, 1, 3), 12);
            due("gives", x.gives(0, 0), 1);
            due("posts", x.count(3), 1);
            x.lodge(0, 0);
            due("posts", x.posts(0), -2);
            int[] dreamt = new int[12];
            for (int night = 0; night < 12; night++) {
                x.nights(1);
                dreamt[night] = x.guest(0, 2);
                due("much", x.guest(0, 3), 1);
                due("shows", x.shows(0), 50);
            }
            DreamDuty y = of(plain);
            y.lodge(0, 0);
            for (int night = 0; night < 12; night++) {
                y.nights(1);
                due("seed", dreamt[night], y.guest(0, 2));
            }
            put(x, "thing a 2;inn j 1 1 1;inn i 1 1 1;gives j a 0;guest h 1 0 1;guest g 1 0 1;twins g h;post q i j;"
                    + "much=7;owes=3;shows=100;seed " + (55 + i) + ";fine 5;");
            due("read", x.read(), 0);
            x.lodge(0, 1);
            x.lodge(1, 0);
            x.nights(1);
            x.morning();
            due("seen", x.guest(0, 7), 1);
            // one more good text, so that the next ones stand in place of another one each time
            due("read", x.read(), 0);
            put(x, "owes=1+2*((3-4*(5-;");
            due("read", x.read(), 1);
        }
        put(x, plain + "twins g h;owes=(1+2)*3;");
        due("read", x.read(), 0);
        due("owes", x.owes(0, 0, 1), 9);
        due("seen", x.guest(0, 7), 0);
    }

    private static void defaults() {
        DreamDuty x = of("inn i 1 1 1;thing a 3;inn j 1 1 1;gives j a 4;gives j a 0;thing b 1;gives i b 9;much=3;much=4;fine 3;fine 8;seed 5;seed 6;");
        due("gives(0,0)", x.gives(0, 0), 1);
        due("gives(0,1)", x.gives(0, 1), 9);
        due("gives(1,0)", x.gives(1, 0), 0);
        due("gives(1,1)", x.gives(1, 1), 1);
        due("inn(0,4)", x.inn(0, 4), 10);
        due("inn(1,4)", x.inn(1, 4), 1);
        due("count(12)", x.count(12), 8);
    }
}
