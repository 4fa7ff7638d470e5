import java.util.ArrayList;
import java.util.List;
import java.util.Random;

/** Random texts and calls, each answer held against the Oracle's. Always the same ones. */
public final class OracleFuzz {
    private static int wrong = 0;
    private static long calls = 0;
    private final Random random;
    private final DreamDuty x = new DreamDuty();
    private final Oracle o = new Oracle();
    private final StringBuilder log = new StringBuilder();
    private int left = 512;

    private OracleFuzz(long seed) { random = new Random(seed); }

    public static void main(String[] args) {
        int runs = args.length > 0 ? Integer.parseInt(args[0]) : 1200;
        long first = args.length > 1 ? Long.parseLong(args[1]) : 1;
        for (long seed = first; seed < first + runs && wrong < 5; seed++) new OracleFuzz(seed).run(seed);
        System.out.println(calls + " calls, " + wrong + " wrong runs");
        if (wrong > 0) System.exit(1);
    }

    private int r(int n) { return random.nextInt(n); }

    private boolean same(String call, long got, long due) {
        left--;
        calls++;
        log.append(call).append(" -> ").append(due).append('\n');
        if (got == due) return true;
        wrong++;
        System.out.println(log + "answered " + got);
        left = 0;
        return false;
    }

    private void run(long seed) {
        log.append("run ").append(seed).append('\n');
        if (r(10) == 0) {
            for (int n = r(20); n > 0 && left > 0; n--) call();
        }
        while (left > 0) {
            send(r(3) == 0 ? spoilt(text()) : text());
            for (int n = r(4) == 0 ? r(4) : r(500); n > 0 && left > 0; n--) call();
        }
    }

    private void send(String text) {
        log.append("text ").append(text).append('\n');
        int held = o.count(8);
        byte[] bytes = new byte[(text.length() + 19) / 20 * 20];
        for (int i = 0; i < bytes.length; i++) bytes[i] = (byte) (i < text.length() ? text.charAt(i) : ' ');
        if (held > 0 && left > 0) same("back", x.back(held), o.back(held));
        for (int i = 0; i < bytes.length && left > 0; i += 20) {
            int[] w = new int[5];
            for (int j = 0; j < 20; j++) w[j / 4] = w[j / 4] << 8 | bytes[i + j] & 255;
            same("feed", x.feed(w[0], w[1], w[2], w[3], w[4]), o.feed(w[0], w[1], w[2], w[3], w[4]));
        }
        int over = bytes.length - text.length();
        if (left > 0 && over > 0 && bytes.length <= 2000 && r(4) > 0) same("back " + over, x.back(over), o.back(over));
        if (left > 0) same("read", x.read(), o.read());
        if (left > 0) same("place", x.place(), o.place());
    }

    // ---- texts

    private String pick(String... some) { return some[r(some.length)]; }

    private String text() {
        StringBuilder s = new StringBuilder();
        List<String> things = new ArrayList<>();
        List<String> inns = new ArrayList<>();
        List<String> guests = new ArrayList<>();
        boolean big = r(3) == 0;
        int t = big ? 7 : r(5) + (r(8) == 0 ? 0 : 1);
        int n = big ? 5 : r(4) + (r(8) == 0 ? 0 : 1);
        int g = big ? 6 : r(6) + (r(8) == 0 ? 0 : 1);
        for (int i = 0; i < t; i++) {
            things.add("t" + (char) ('a' + i));
            s.append("thing ").append(things.get(i)).append(' ').append(r(3) == 0 ? r(100) : r(8)).append(';');
        }
        for (int i = 0; i < n; i++) {
            inns.add("i" + (char) ('a' + i));
            s.append("inn ").append(inns.get(i)).append(' ').append(r(4) == 0 ? r(100) : r(6)).append(' ')
                    .append(1 + r(r(2) == 0 ? 7 : 3)).append(' ').append(r(10)).append(";\n");
        }
        if (n > 0 && t > 0) {
            int zero = r(6) == 0 ? r(n) : -1;
            for (int i = 0; i < n; i++) {
                for (int j = 0; j < t; j++) {
                    if (zero == i || r(2) == 0) {
                        s.append("gives ").append(inns.get(i)).append(' ').append(things.get(j)).append(' ')
                                .append(zero == i ? 0 : r(3) == 0 ? 0 : r(10)).append(';');
                    }
                }
            }
        }
        for (int i = 0; i < g; i++) {
            guests.add("g" + (char) ('a' + i));
            s.append("guest ").append(guests.get(i)).append(' ').append(r(3) == 0 ? r(1000) : r(60)).append(' ')
                    .append(r(4) == 0 ? r(2) * 100 : r(101)).append(' ').append(r(10)).append(" ;");
        }
        if (g >= 2 && r(3) > 0) {
            List<String> left = new ArrayList<>(guests);
            for (int k = r(4); k > 0 && left.size() >= 2; k--) {
                s.append("twins ").append(left.remove(r(left.size()))).append(' ').append(left.remove(r(left.size()))).append(';');
            }
        }
        for (int i = r(7); i > 0 && r(5) > 0; i--) {
            s.append("post p").append((char) ('a' + i));
            for (String inn : inns) if (r(2) == 0) s.append(' ').append(inn);
            s.append(';');
        }
        if (r(4) > 0) s.append("much = ").append(law()).append(';');
        if (r(4) > 0) s.append("owes = ").append(law()).append(';');
        if (r(4) > 0) s.append("shows = ").append(r(2) == 0 ? law() : r(120) + "").append(';');
        if (r(2) == 0) s.append("fine ").append(1 + r(9)).append(';');
        if (r(3) > 0) s.append("seed ").append(r(10000)).append(';');
        if (r(40) == 0) while (s.length() < 1900) s.append(pick("fine 3;", "seed 9 ;", "shows=1+(2);"));
        return s.length() > 2000 ? s.substring(0, 2000) : s.toString();
    }

    private String law() {
        StringBuilder s = new StringBuilder();
        for (int k = r(3) == 0 ? r(5) : 0; k > 0; k--) {
            s.append("if ").append(sum(0)).append('<').append(sum(0)).append(" then ").append(sum(0)).append(" else ");
        }
        return s.append(sum(0)).toString();
    }

    private String sum(int depth) {
        StringBuilder s = new StringBuilder(product(depth));
        for (int k = r(3); k > 0 && r(2) == 0; k--) s.append(pick("+", "-", " + ", " - ")).append(product(depth));
        return s.toString();
    }

    private String product(int depth) {
        StringBuilder s = new StringBuilder(unit(depth));
        for (int k = r(3); k > 0 && r(2) == 0; k--) s.append(pick("*", "/", " * ", "/ ")).append(unit(depth));
        return s.toString();
    }

    private String unit(int depth) {
        if (r(4) == 0 && depth < 7) return "(" + sum(depth + 1) + ")";
        if (r(3) == 0) return "" + (r(6) == 0 ? r(10000) : r(12));
        return Oracle.VARS.get(r(9));
    }

    private String spoilt(String text) {
        StringBuilder s = new StringBuilder(text);
        for (int k = 1 + r(3); k > 0; k--) {
            int at = r(s.length() + 1);
            switch (r(7)) {
                case 0 -> s.setLength(at);
                case 1 -> s.insert(at, pick(";", "=", "<", "(", ")", "+", "((((((1))))))", "(((((((1)))))))", "A", ".", "\u00e9", "\0"));
                case 2 -> s.insert(at, pick(" thing ", " inn ", " x ", "0", "99999", " abcdefghi ", " if ", " if 1<2 then 3 else ", "then", "else"));
                case 3 -> {
                    if (at < s.length()) s.deleteCharAt(at);
                }
                case 4 -> s.insert(Math.max(0, s.lastIndexOf(";", at) + 1), pick("fine 0;", "fine 10;", "thing ta 100;", "thing x 100;", "inn y 1 8 1;",
                        "inn z 1 1 10;", "guest q 9999 101 10;", "post r ia ia;", "twins ga ga;", "twins ga gb;", "gives ia zz 1;", "gives ta ia 1;",
                        "gives ia ta 10;", "post ta ib;", "post v v;", "twins ia ga;", "thing u 1;thing v 1;thing w 1;thing zz 1;"));
                case 5 -> {
                    if (s.length() > 0) s.setCharAt(Math.min(at, s.length() - 1), (char) r(128));
                }
                default -> {
                    String word = pick("1", "9", "0");
                    int here = s.indexOf(word, at);
                    if (here >= 0) s.replace(here, here + 1, pick("100", "1000", "12345", "8", "0007", "a"));
                }
            }
        }
        return s.length() > 2000 ? s.substring(0, 2000) : s.toString();
    }

    // ---- calls

    private int some(int most) { return r(12) == 0 ? r(most + 6) - 3 : r(most); }

    private int wild() { return r(3) == 0 ? random.nextInt() : r(2) == 0 ? Integer.MIN_VALUE : Integer.MAX_VALUE; }

    private int arg(int most) { return r(60) == 0 ? wild() : some(most); }

    private static long b(boolean is) { return is ? 1 : 0; }

    private void call() {
        int things = Math.max(1, o.count(0));
        int inns = Math.max(1, o.count(1));
        int guests = Math.max(1, o.count(2));
        int a;
        int c;
        int d;
        switch (r(44)) {
            case 0, 1, 2, 3, 4 -> {
                a = arg(guests);
                c = arg(8);
                same("guest " + a + " " + c, x.guest(a, c), o.guest(a, c));
            }
            case 5, 6 -> {
                a = arg(inns);
                c = arg(5);
                same("inn " + a + " " + c, x.inn(a, c), o.inn(a, c));
            }
            case 7 -> {
                a = arg(inns);
                c = arg(things);
                same("gives " + a + " " + c, x.gives(a, c), o.gives(a, c));
            }
            case 8, 9, 10, 11, 12, 13 -> {
                a = arg(guests);
                c = r(8) == 0 ? -1 : arg(inns);
                same("lodge " + a + " " + c, b(x.lodge(a, c)), b(o.lodge(a, c)));
            }
            case 14, 15, 16, 17 -> {
                a = r(8) == 0 ? arg(31) : r(3);
                same("nights " + a, x.nights(a), o.nights(a));
            }
            case 18, 19 -> same("morning", x.morning(), o.morning());
            case 20, 21 -> {
                a = arg(guests);
                c = arg(guests);
                same("swap " + a + " " + c, b(x.swap(a, c)), b(o.swap(a, c)));
            }
            case 22, 23 -> {
                a = arg(guests);
                boolean back = r(3) == 0;
                same("deposit " + a + " " + back, x.deposit(a, back), o.deposit(a, back));
            }
            case 24 -> {
                for (int n = r(6) == 0 ? r(50) : 1; n > 0 && left > 0; n--) same("undo", b(x.undo()), b(o.undo()));
            }
            case 25 -> {
                a = arg(guests);
                c = arg(things);
                d = arg(100);
                same("owes " + a + " " + c + " " + d, x.owes(a, c, d), o.owes(a, c, d));
            }
            case 26, 27 -> {
                a = arg(guests);
                c = arg(inns);
                boolean below = r(2) == 0;
                same("mean " + a + " " + c + " " + below, x.mean(a, c, below), o.mean(a, c, below));
            }
            case 28 -> {
                a = arg(things);
                same("sure " + a, x.sure(a), o.sure(a));
            }
            case 29 -> {
                a = r(3) == 0 ? arg(64) : 1 << r(guests) | 1 << r(guests) | 1 << r(guests) | 1 << r(guests);
                same("lodging " + a, x.lodging(a), o.lodging(a));
                for (int i = -1; i < 5 && left > 0; i++) same("lodgingAt " + a + " " + i, x.lodgingAt(a, i), o.lodgingAt(a, i));
            }
            case 30, 31 -> {
                a = arg(3);
                same("swaps " + a, x.swaps(a), o.swaps(a));
            }
            case 32, 33 -> {
                a = arg(6) - 1;
                same("declares " + a, x.declares(a), o.declares(a));
            }
            case 34 -> {
                a = arg(2);
                same("posts " + a, x.posts(a), o.posts(a));
            }
            case 35 -> {
                if (r(3) > 0) return;
                a = arg(guests);
                c = r(3) == 0 ? arg(31) : r(5);
                d = r(3) == 0 ? arg(21) : 1 + r(4);
                same("year " + a + " " + c + " " + d, x.year(a, c, d), o.year(a, c, d));
            }
            case 36 -> {
                if (r(3) > 0) return;
                a = arg(guests);
                same("poorBy " + a, x.poorBy(a), o.poorBy(a));
            }
            case 37 -> {
                a = arg(guests);
                same("shows " + a, x.shows(a), o.shows(a));
            }
            case 38 -> {
                if (r(20) == 0) same("forget", x.forget(), o.forget());
                for (int n = r(8) == 0 ? r(22) : 1; n > 0 && left > 0; n--) {
                    a = arg(things);
                    same("tell " + a, x.tell(a), o.tell(a));
                }
            }
            case 39 -> {
                a = arg(Math.max(1, o.count(10) + 1));
                same("from " + a, x.from(a), o.from(a));
            }
            case 40 -> {
                a = r(3) == 0 ? arg(Math.max(1, o.count(10) + 1)) : r(8);
                same("likeliest " + a, x.likeliest(a), o.likeliest(a));
            }
            case 41 -> {
                a = arg(Math.max(1, o.count(10) + 1));
                same("whose " + a, x.whose(a), o.whose(a));
            }
            case 42 -> {
                a = arg(3);
                if (r(2) == 0) same("hold " + a, b(x.hold(a)), b(o.hold(a)));
                else if (r(4) == 0) same("restore " + a, b(x.restore(a)), b(o.restore(a)));
            }
            default -> {
                a = arg(13);
                same("count " + a, x.count(a), o.count(a));
            }
        }
    }
}
