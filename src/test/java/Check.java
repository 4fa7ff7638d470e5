/** What the tests share, which extend it: putting a text on the tape, and counting answers that are not due. */
abstract class Check {
    /** What no argument may be. */
    static final int[] WILD = {-2, -1000, Integer.MIN_VALUE, Integer.MAX_VALUE};

    private static int wrong = 0;
    private static int asked = 0;
    private static String sentence = "";

    /** The sentence of the document that the next answers hold; SentenceTests looks it up there. */
    static void says(String words) {
        sentence = words;
    }

    static void due(String call, long got, long want) {
        asked++;
        if (got != want) tell(call, "" + got, "" + want);
    }

    static void due(String call, boolean got, boolean want) {
        due(call, got ? 1 : 0, want ? 1 : 0);
    }

    static void due(String call, String got, String want) {
        asked++;
        if (!got.equals(want)) tell(call, got, want);
    }

    private static void tell(String call, String got, String want) {
        wrong++;
        System.out.println((sentence.isEmpty() ? "" : "<" + sentence + "> ") + call + " answered " + got + ", due is " + want);
    }

    /** Puts a text behind the tape; what fills up the last twenty bytes goes back. */
    static void put(DreamDuty x, String text) {
        int over = 0;
        for (int i = 0; i < text.length(); i += 20) {
            int[] words = new int[5];
            for (int j = 0; j < 20; j++) {
                int sign = i + j < text.length() ? text.charAt(i + j) : ' ';
                words[j / 4] = words[j / 4] << 8 | sign;
            }
            x.feed(words[0], words[1], words[2], words[3], words[4]);
            over = Math.max(0, i + 20 - text.length());
        }
        x.back(over);
    }

    static DreamDuty of(String text) {
        DreamDuty x = new DreamDuty();
        put(x, text);
        due("read of " + text, x.read(), 0);
        due("place", x.place(), -1);
        return x;
    }

    /** A text on a new object, with the fault and the place that are due. */
    static void fault(String text, int number, int place) {
        DreamDuty x = new DreamDuty();
        put(x, text);
        due("read of <" + text + ">", x.read(), number);
        due("place of <" + text + ">", x.place(), place);
        due("tape behind it", x.count(8), 0);
    }

    static void good(String text) {
        fault(text, 0, -1);
    }

    /** So many of a sort, named by its first letter and one from a on. */
    static String times(int n, String word, String behind) {
        StringBuilder s = new StringBuilder();
        for (int k = 0; k < n; k++) s.append(word).append(' ').append(word.charAt(0)).append((char) ('a' + k)).append(behind).append(';');
        return s.toString();
    }

    /** All that a border shows without being asked what would be. */
    static String shown(DreamDuty x) {
        StringBuilder s = new StringBuilder();
        for (int what = 0; what < 13; what++) s.append(x.count(what)).append(' ');
        return s + people(x);
    }

    /** Of that what its guests and inns show. */
    static String people(DreamDuty x) {
        StringBuilder s = new StringBuilder();
        for (int guest = 0; guest < x.count(2); guest++) {
            s.append("| ");
            for (int what = 0; what < 8; what++) s.append(x.guest(guest, what)).append(' ');
        }
        for (int inn = 0; inn < x.count(1); inn++) {
            s.append("| ");
            for (int what = 0; what < 5; what++) s.append(x.inn(inn, what)).append(' ');
        }
        return s.toString();
    }

    /** A call by which nothing happens. */
    static void still(DreamDuty x, Runnable call) {
        String ahead = shown(x);
        call.run();
        due("shown behind it", shown(x), ahead);
    }

    static void end() {
        System.out.println(asked + " answers, " + wrong + " not due");
        if (wrong > 0) System.exit(1);
    }
}
