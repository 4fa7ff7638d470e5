/** What the tests share: putting a text on the tape, and counting answers that are not due. */
final class Check {
    private static int wrong = 0;
    private static int asked = 0;

    private Check() { }

    static void due(String call, long got, long want) {
        asked++;
        if (got != want) {
            wrong++;
            System.out.println(call + " answered " + got + ", due is " + want);
        }
    }

    static void due(String call, boolean got, boolean want) {
        due(call, got ? 1 : 0, want ? 1 : 0);
    }

    /** Puts a text behind the tape; what fills up the last twenty bytes goes back. */
    static void put(DreamDuty x, String text) {
        int over = 0;
        for (int i = 0; i < text.length(); i += 20) {
            int[] words = new int[5];
            for (int j = 0; j < 20; j++) {
                int sign = i + j < text.length() ? text.charAt(i + j) : ' ';
                words[j / 4] = words[j / 4] << 8 | sign;
            }
            x.feed(words[0], words[1], words[2], words[3], words[4]);
            over = Math.max(0, i + 20 - text.length());
        }
        x.back(over);
    }

    static DreamDuty of(String text) {
        DreamDuty x = new DreamDuty();
        put(x, text);
        due("read of " + text, x.read(), 0);
        due("place", x.place(), -1);
        return x;
    }

    static void end() {
        System.out.println(asked + " answers, " + wrong + " not due");
        if (wrong > 0) System.exit(1);
    }
}
