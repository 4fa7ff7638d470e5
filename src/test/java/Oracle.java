import java.math.BigInteger;
import java.util.ArrayDeque;
import java.util.ArrayList;
import java.util.Arrays;
import java.util.HashMap;
import java.util.List;
import java.util.Map;
import java.util.TreeMap;
import java.util.regex.Matcher;
import java.util.regex.Pattern;

/** The document once more, written slowly and with the Java library, to hold DreamDuty against. */
final class Oracle {
    static final int NONE = -1;
    static final List<String> VARS = List.of("night", "tariff", "units", "cheese", "degree", "honest", "which", "twice", "alike");
    static final List<String> WORDS = List.of("thing", "inn", "gives", "guest", "twins", "post", "much", "owes", "shows",
            "fine", "seed", "if", "then", "else", "night", "tariff", "units", "cheese", "degree", "honest", "which", "twice", "alike");

    static final class Fault extends Exception {
        final int number;
        final int place;
        Fault(int number, int place) { this.number = number; this.place = place; }
    }
    static final class ByNought extends Exception { }

    record Token(String kind, String word, int place) { }

    interface Expr { int of(Map<String, Integer> v) throws ByNought; }

    static final class Rule {
        final List<Expr[]> ifs = new ArrayList<>();
        Expr last;
        int tells(Map<String, Integer> v) {
            try {
                for (Expr[] one : ifs) {
                    if (one[0].of(v) < one[1].of(v)) return one[2].of(v);
                }
                return last.of(v);
            } catch (ByNought e) {
                return 0;
            }
        }
    }

    record Thing(String name, int tariff) { }
    record Inn(String name, int price, int beds, int cheese) { }
    record Guest(String name, int coins, int honest, int degree) { }
    record Dream(int thing, int units, boolean twice) { }

    static final class World {
        final List<Thing> things = new ArrayList<>();
        final List<Inn> inns = new ArrayList<>();
        final List<Guest> guests = new ArrayList<>();
        final List<List<Integer>> posts = new ArrayList<>();
        final Map<List<Integer>, Integer> gives = new HashMap<>();
        final Map<Integer, Integer> twin = new HashMap<>();
        Rule much = new Rule();
        Rule owes = new Rule();
        Rule shows = new Rule();
        int fine = 2;
        int seed = 0;
        World() {
            much.last = v -> 1;
            owes.last = v -> v.get("tariff") * v.get("units");
            shows.last = v -> 50;
        }
        int weight(int inn, int thing) { return gives.getOrDefault(List.of(inn, thing), 1); }
        int all(int inn) {
            int sum = 0;
            for (int t = 0; t < things.size(); t++) sum += weight(inn, t);
            return sum;
        }
    }

    static final class Now {
        int night;
        int customs;
        int toInns;
        final List<Integer> coins = new ArrayList<>();
        final List<Integer> lodged = new ArrayList<>();
        final List<Dream> dreams = new ArrayList<>();
        final List<List<Dream>> kept = new ArrayList<>();
        final List<Integer> declared = new ArrayList<>();
        final List<Integer> seen = new ArrayList<>();
        final Map<Integer, int[]> last = new HashMap<>();
        Now() { }
        Now(World w) {
            for (Guest g : w.guests) {
                coins.add(g.coins);
                lodged.add(-2);
                dreams.add(null);
                kept.add(new ArrayList<>());
                declared.add(0);
                seen.add(0);
            }
        }
        Now twin() {
            Now n = new Now();
            n.night = night;
            n.customs = customs;
            n.toInns = toInns;
            n.coins.addAll(coins);
            n.lodged.addAll(lodged);
            n.dreams.addAll(dreams);
            for (List<Dream> k : kept) n.kept.add(new ArrayList<>(k));
            n.declared.addAll(declared);
            n.seen.addAll(seen);
            n.last.putAll(last);
            return n;
        }
    }

    private final List<Integer> tape = new ArrayList<>();
    private int place = NONE;
    private World w = new World();
    private Now now = new Now(w);
    private final ArrayDeque<Now> done = new ArrayDeque<>();
    private final Now[] slots = new Now[3];
    private final List<Integer> told = new ArrayList<>();

    // ---- the text

    static List<Token> tokens(String text) {
        List<Token> list = new ArrayList<>();
        Matcher m = Pattern.compile("[a-z]+|[0-9]+|[;=+\\-*/<()]|[^\\t\\n\\r ]", Pattern.DOTALL).matcher(text);
        while (m.find()) {
            String s = m.group();
            char c = s.charAt(0);
            String kind;
            if (c >= 'a' && c <= 'z') kind = s.length() > 8 ? "?" : WORDS.contains(s) ? s : "NAME";
            else if (c >= '0' && c <= '9') kind = s.length() > 4 ? "?" : "INT";
            else kind = ";=+-*/<()".indexOf(c) >= 0 ? s : "?";
            list.add(new Token(kind, s, m.start()));
        }
        list.add(new Token("END", "", text.length()));
        return list;
    }

    private static final class Parse {
        final List<Token> list;
        int at;
        final Map<String, Integer> count = new HashMap<>();
        final World w = new World();
        final Map<String, int[]> names = new HashMap<>();
        // the faults of the second kind, by place and number
        final TreeMap<Integer, Integer> late = new TreeMap<>();

        Parse(List<Token> list) { this.list = list; }

        Token here() { return list.get(at); }
        boolean is(String kind) { return here().kind.equals(kind); }

        Token eat(String... kinds) throws Fault {
            Token t = here();
            if (!Arrays.asList(kinds).contains(t.kind)) throw new Fault(1, t.place);
            if (at == 400) throw new Fault(2, t.place);
            at++;
            return t;
        }

        void late(int number, Token t) { late.merge(t.place, number, Math::min); }

        int number(int lo, int hi) throws Fault {
            Token t = eat("INT");
            int n = Integer.parseInt(t.word);
            if (n < lo || n > hi) late(5, t);
            return n;
        }

        void fresh(Token t, int sort, int n) {
            if (names.containsKey(t.word)) late(3, t);
            else names.put(t.word, new int[] {sort, n});
        }

        int known(Token t, int sort) {
            int[] is = names.get(t.word);
            if (is == null || is[0] != sort) {
                late(4, t);
                return -1;
            }
            return is[1];
        }

        void limit(String kind, int most) throws Fault {
            if (count.merge(kind, 1, Integer::sum) > most) throw new Fault(2, here().place);
        }

        void text() throws Fault {
            while (!is("END")) {
                switch (here().kind) {
                    case "thing" -> {
                        limit("thing", 7);
                        eat("thing");
                        Token n = eat("NAME");
                        fresh(n, 0, w.things.size());
                        w.things.add(new Thing(n.word, number(0, 99)));
                        eat(";");
                    }
                    case "inn" -> {
                        limit("inn", 5);
                        eat("inn");
                        Token n = eat("NAME");
                        fresh(n, 1, w.inns.size());
                        w.inns.add(new Inn(n.word, number(0, 99), number(1, 7), number(0, 9)));
                        eat(";");
                    }
                    case "guest" -> {
                        limit("guest", 6);
                        eat("guest");
                        Token n = eat("NAME");
                        fresh(n, 2, w.guests.size());
                        w.guests.add(new Guest(n.word, number(0, 999), number(0, 100), number(0, 9)));
                        eat(";");
                    }
                    case "gives" -> {
                        eat("gives");
                        int i = known(eat("NAME"), 1);
                        int t = known(eat("NAME"), 0);
                        w.gives.put(List.of(i, t), number(0, 9));
                        eat(";");
                    }
                    case "twins" -> {
                        limit("twins", 3);
                        eat("twins");
                        Token a = eat("NAME");
                        int first = known(a, 2);
                        if (first >= 0 && w.twin.containsKey(first)) late(3, a);
                        Token b = eat("NAME");
                        int second = known(b, 2);
                        if (second >= 0 && (w.twin.containsKey(second) || second == first)) late(3, b);
                        if (first >= 0 && second >= 0) {
                            w.twin.put(first, second);
                            w.twin.put(second, first);
                        }
                        eat(";");
                    }
                    case "post" -> {
                        limit("post", 6);
                        eat("post");
                        fresh(eat("NAME"), 3, w.posts.size());
                        List<Integer> inns = new ArrayList<>();
                        while (!is(";")) {
                            Token t = eat("NAME", ";");
                            int i = known(t, 1);
                            if (i >= 0 && inns.contains(i)) late(3, t);
                            inns.add(i);
                        }
                        w.posts.add(inns);
                        eat(";");
                    }
                    case "much" -> {
                        eat("much");
                        w.much = law();
                    }
                    case "owes" -> {
                        eat("owes");
                        w.owes = law();
                    }
                    case "shows" -> {
                        eat("shows");
                        w.shows = law();
                    }
                    case "fine" -> {
                        eat("fine");
                        w.fine = number(1, 9);
                        eat(";");
                    }
                    case "seed" -> {
                        eat("seed");
                        w.seed = number(0, 9999);
                        eat(";");
                    }
                    default -> throw new Fault(1, here().place);
                }
            }
        }

        Rule law() throws Fault {
            Rule rule = new Rule();
            eat("=");
            while (is("if")) {
                if (rule.ifs.size() == 4) throw new Fault(2, here().place);
                eat("if");
                Expr a = sum(0);
                eat("<");
                Expr b = sum(0);
                eat("then");
                Expr c = sum(0);
                eat("else");
                rule.ifs.add(new Expr[] {a, b, c});
            }
            rule.last = sum(0);
            eat(";");
            return rule;
        }

        Expr sum(int depth) throws Fault {
            Expr left = product(depth);
            while (is("+") || is("-")) {
                boolean plus = eat("+", "-").kind.equals("+");
                Expr l = left;
                Expr r = product(depth);
                left = plus ? v -> l.of(v) + r.of(v) : v -> l.of(v) - r.of(v);
            }
            return left;
        }

        Expr product(int depth) throws Fault {
            Expr left = unit(depth);
            while (is("*") || is("/")) {
                boolean times = eat("*", "/").kind.equals("*");
                Expr l = left;
                Expr r = unit(depth);
                if (times) {
                    left = v -> l.of(v) * r.of(v);
                } else {
                    left = v -> {
                        long a = l.of(v);
                        long b = r.of(v);
                        if (b == 0) throw new ByNought();
                        return (int) (a / b);
                    };
                }
            }
            return left;
        }

        Expr unit(int depth) throws Fault {
            Token t = here();
            if (is("INT")) {
                int n = Integer.parseInt(eat("INT").word);
                return v -> n;
            }
            if (VARS.contains(t.kind)) {
                eat(t.kind);
                return v -> v.get(t.kind);
            }
            if (!is("(")) throw new Fault(1, t.place);
            if (depth == 6) throw new Fault(2, t.place);
            eat("(");
            Expr e = sum(depth + 1);
            eat(")");
            return e;
        }
    }

    int read() {
        StringBuilder s = new StringBuilder();
        for (int b : tape) s.append((char) b);
        tape.clear();
        place = NONE;
        Parse p = new Parse(tokens(s.toString()));
        try {
            p.text();
        } catch (Fault f) {
            place = f.place;
            return f.number;
        }
        if (!p.late.isEmpty()) {
            place = p.late.firstKey();
            return p.late.firstEntry().getValue();
        }
        w = p.w;
        now = new Now(w);
        done.clear();
        told.clear();
        Arrays.fill(slots, null);
        return 0;
    }

    // ---- the tape

    int feed(int a, int b, int c, int d, int e) {
        if (tape.size() + 20 > 2000) return NONE;
        for (int x : new int[] {a, b, c, d, e}) {
            tape.add(x >>> 24);
            tape.add((x >> 16) & 255);
            tape.add((x >> 8) & 255);
            tape.add(x & 255);
        }
        return tape.size();
    }

    int back(int n) {
        if (n < 0 || n > tape.size()) return NONE;
        for (int i = 0; i < n; i++) tape.remove(tape.size() - 1);
        return tape.size();
    }

    int place() { return place; }

    // ---- what goes on

    private boolean g(int guest) { return guest >= 0 && guest < w.guests.size(); }
    private boolean i(int inn) { return inn >= 0 && inn < w.inns.size(); }
    private boolean t(int thing) { return thing >= 0 && thing < w.things.size(); }

    private int lodgers(int inn) {
        int bits = 0;
        for (int a = 0; a < w.guests.size(); a++) if (now.lodged.get(a) == inn) bits += 1 << a;
        return bits;
    }

    static int lot(int n, int seed, int which) {
        long h = seed;
        for (long it : new long[] {63, which}) {
            h = ((h ^ it) * 1103515245L + 12345L) & 0xffffffffL;
            h = h ^ (h / 32768);
        }
        return (int) ((h / 2) % n);
    }

    private Map<String, Integer> vars(Now s, int guest, int inn, Dream d) {
        Map<String, Integer> v = new HashMap<>();
        v.put("night", s.night);
        v.put("tariff", w.things.get(d.thing).tariff);
        v.put("units", d.units);
        v.put("cheese", inn < 0 ? 0 : w.inns.get(inn).cheese);
        v.put("degree", w.guests.get(guest).degree);
        v.put("honest", w.guests.get(guest).honest);
        v.put("which", d.thing);
        v.put("twice", d.twice ? 1 : 0);
        int alike = 0;
        for (int a = 0; a < w.guests.size(); a++) {
            if (a != guest && s.dreams.get(a) != null && s.dreams.get(a).thing == d.thing) alike++;
        }
        v.put("alike", alike);
        return v;
    }

    private static int hold(int x, int hi) { return x < 0 ? 0 : x > hi ? hi : x; }

    private Dream dreamt(Now s, int guest, int inn, int thing) {
        int[] l = s.last.get(inn);
        boolean twice = l != null && l[0] == thing && l[1] != guest;
        int units = hold(w.much.tells(vars(s, guest, inn, new Dream(thing, 0, twice))), 99);
        return new Dream(thing, units, twice);
    }

    private int law(Now s, int guest, int inn, Dream d) { return hold(w.owes.tells(vars(s, guest, inn, d)), 999); }

    private int duty(Now s, int guest) {
        Dream d = s.dreams.get(guest);
        if (d == null) return 0;
        int own = law(s, guest, s.lodged.get(guest), d);
        Integer twin = w.twin.get(guest);
        if (twin == null || s.dreams.get(twin) == null) return own;
        int his = law(s, twin, s.lodged.get(twin), s.dreams.get(twin));
        if (own > his || (own == his && guest < twin)) return own;
        return 0;
    }

    private int eyes(Now s, int guest) {
        return hold(w.shows.tells(vars(s, guest, s.lodged.get(guest), s.dreams.get(guest))), 100);
    }

    private void night(Now s, int seed) {
        for (int a = 0; a < w.guests.size(); a++) {
            int inn = s.lodged.get(a);
            if (inn < 0) continue;
            s.coins.set(a, s.coins.get(a) - w.inns.get(inn).price);
            s.toInns += w.inns.get(inn).price;
            s.dreams.set(a, null);
            if (w.all(inn) == 0) continue;
            int lot = lot(w.all(inn), seed, 64 * s.night + a);
            int thing = 0;
            int sum = w.weight(inn, 0);
            while (sum <= lot) sum += w.weight(inn, ++thing);
            Dream d = dreamt(s, a, inn, thing);
            s.dreams.set(a, d);
            s.last.put(inn, new int[] {thing, a});
        }
        s.night++;
    }

    private int customs(Now s, int seed) {
        Now ahead = s.twin();
        int all = 0;
        for (int a = 0; a < w.guests.size(); a++) {
            if (ahead.dreams.get(a) == null) continue;
            int pays = 0;
            if (lot(100, seed, 64 * ahead.night + 16 + a) < w.guests.get(a).honest) {
                s.declared.set(a, s.declared.get(a) + 1);
                pays = duty(ahead, a);
            } else if (lot(100, seed, 64 * ahead.night + 32 + a) < eyes(ahead, a)) {
                s.seen.set(a, s.seen.get(a) + 1);
                pays = w.fine * duty(ahead, a);
            }
            s.coins.set(a, s.coins.get(a) - pays);
            all += pays;
        }
        s.customs += all;
        for (int a = 0; a < w.guests.size(); a++) s.dreams.set(a, null);
        return all;
    }

    private int dreamers() {
        int bits = 0;
        for (int a = 0; a < w.guests.size(); a++) if (now.dreams.get(a) != null) bits += 1 << a;
        return bits;
    }

    int guest(int guest, int what) {
        if (!g(guest)) return -100000;
        Dream d = now.dreams.get(guest);
        return switch (what) {
            case 0 -> now.coins.get(guest);
            case 1 -> now.lodged.get(guest);
            case 2 -> d == null ? -2 : d.thing;
            case 3 -> d == null ? -2 : d.units;
            case 4 -> duty(now, guest);
            case 5 -> now.kept.get(guest).size();
            case 6 -> now.declared.get(guest);
            case 7 -> now.seen.get(guest);
            default -> -100000;
        };
    }

    int inn(int inn, int what) {
        if (!i(inn)) return NONE;
        int[] l = now.last.getOrDefault(inn, new int[] {-2, -2});
        return switch (what) {
            case 0 -> lodgers(inn);
            case 1 -> w.inns.get(inn).beds - Integer.bitCount(lodgers(inn));
            case 2 -> l[0];
            case 3 -> l[1];
            case 4 -> w.all(inn);
            default -> NONE;
        };
    }

    int gives(int inn, int thing) { return i(inn) && t(thing) ? w.weight(inn, thing) : NONE; }

    private void keep() {
        done.push(now.twin());
        if (done.size() > 40) done.removeLast();
    }

    boolean lodge(int guest, int inn) {
        if (!g(guest)) return false;
        if (inn == NONE) {
            if (now.lodged.get(guest) == -2) return false;
            keep();
            now.lodged.set(guest, -2);
            return true;
        }
        if (!i(inn) || now.lodged.get(guest) == inn || inn(inn, 1) == 0) return false;
        keep();
        now.lodged.set(guest, inn);
        return true;
    }

    int nights(int n) {
        if (n < 0 || n > 30) return NONE;
        if (n > 0) keep();
        for (int x = 0; x < n; x++) night(now, w.seed);
        return now.night;
    }

    int morning() {
        if (dreamers() == 0) return -2;
        keep();
        return customs(now, w.seed);
    }

    boolean swap(int guest, int other) {
        if (!g(guest) || !g(other) || guest == other) return false;
        if (now.dreams.get(guest) == null && now.dreams.get(other) == null) return false;
        keep();
        Dream d = now.dreams.get(guest);
        now.dreams.set(guest, now.dreams.get(other));
        now.dreams.set(other, d);
        return true;
    }

    int deposit(int guest, boolean back) {
        if (!g(guest)) return NONE;
        List<Dream> k = now.kept.get(guest);
        if (back) {
            if (now.dreams.get(guest) != null || k.isEmpty()) return -2;
            keep();
            k = now.kept.get(guest);
            now.dreams.set(guest, k.remove(k.size() - 1));
        } else {
            if (now.dreams.get(guest) == null || k.size() == 5) return -2;
            keep();
            k = now.kept.get(guest);
            k.add(now.dreams.get(guest));
            now.dreams.set(guest, null);
        }
        return k.size();
    }

    boolean undo() {
        if (done.isEmpty()) return false;
        now = done.pop();
        return true;
    }

    // ---- what would be

    int owes(int guest, int thing, int units) {
        if (!g(guest) || !t(thing) || units < 0 || units > 99) return NONE;
        int inn = now.lodged.get(guest);
        boolean twice = inn >= 0 && dreamt(now, guest, inn, thing).twice;
        return law(now, guest, inn, new Dream(thing, units, twice));
    }

    private BigInteger[] mean(int guest, int inn) {
        BigInteger sum = BigInteger.ZERO;
        BigInteger all = BigInteger.valueOf(w.all(inn));
        if (all.signum() == 0) return new BigInteger[] {BigInteger.ZERO, BigInteger.ONE};
        for (int x = 0; x < w.things.size(); x++) {
            int duty = law(now, guest, inn, dreamt(now, guest, inn, x));
            sum = sum.add(BigInteger.valueOf((long) duty * w.weight(inn, x)));
        }
        BigInteger d = sum.gcd(all);
        return new BigInteger[] {sum.divide(d), all.divide(d)};
    }

    int mean(int guest, int inn, boolean below) {
        if (!g(guest) || !i(inn)) return NONE;
        return mean(guest, inn)[below ? 1 : 0].intValueExact();
    }

    int sure(int thing) {
        if (!t(thing)) return NONE;
        int best = -2;
        for (int x = w.inns.size() - 1; x >= 0; x--) {
            if (w.weight(x, thing) == 0) continue;
            if (best < 0 || (double) w.weight(x, thing) / w.all(x) >= (double) w.weight(best, thing) / w.all(best)) best = x;
        }
        return best;
    }

    private List<Integer> members(int set) {
        List<Integer> list = new ArrayList<>();
        if (set < 1 || set >= 1 << w.guests.size() || Integer.bitCount(set) > 4) return null;
        for (int a = 0; a < 6; a++) if ((set >> a & 1) == 1) list.add(a);
        return list;
    }

    private BigInteger bestN;
    private BigInteger bestD;
    private List<Integer> bestWay;

    private void lodgings(List<Integer> who, List<Integer> way, int[] free, BigInteger n, BigInteger d) {
        if (way.size() == who.size()) {
            if (bestWay == null || n.multiply(bestD).compareTo(bestN.multiply(d)) < 0) {
                bestWay = new ArrayList<>(way);
                bestN = n;
                bestD = d;
            }
            return;
        }
        for (int x = 0; x < w.inns.size(); x++) {
            if (free[x] == 0) continue;
            free[x]--;
            way.add(x);
            BigInteger[] m = mean(who.get(way.size() - 1), x);
            BigInteger price = BigInteger.valueOf(w.inns.get(x).price);
            lodgings(who, way, free, n.multiply(m[1]).add(m[0].add(price.multiply(m[1])).multiply(d)), d.multiply(m[1]));
            way.remove(way.size() - 1);
            free[x]++;
        }
    }

    private void lodgings(int set) {
        bestWay = null;
        int[] free = new int[w.inns.size()];
        for (int x = 0; x < free.length; x++) free[x] = w.inns.get(x).beds - Integer.bitCount(lodgers(x) & ~set);
        lodgings(members(set), new ArrayList<>(), free, BigInteger.ZERO, BigInteger.ONE);
    }

    int lodging(int set) {
        if (members(set) == null) return NONE;
        lodgings(set);
        return bestWay == null ? -2 : bestN.divide(bestD).intValueExact();
    }

    int lodgingAt(int set, int i) {
        if (members(set) == null || i < 0 || i >= members(set).size()) return NONE;
        lodgings(set);
        return bestWay == null ? -2 : bestWay.get(i);
    }

    private void ways(List<Integer> left, List<Integer> so, List<List<Integer>> all) {
        if (left.isEmpty()) {
            List<Integer> s = new ArrayList<>(so);
            s.sort(null);
            all.add(s);
            return;
        }
        List<Integer> rest = new ArrayList<>(left.subList(1, left.size()));
        ways(rest, so, all);
        for (int o : rest) {
            List<Integer> fewer = new ArrayList<>(rest);
            fewer.remove(Integer.valueOf(o));
            so.add(10 * left.get(0) + o);
            ways(fewer, so, all);
            so.remove(so.size() - 1);
        }
    }

    int swaps(int what) {
        if (what < 0 || what > 2) return NONE;
        List<Integer> who = new ArrayList<>();
        for (int a = 0; a < w.guests.size(); a++) if (now.dreams.get(a) != null) who.add(a);
        List<List<Integer>> all = new ArrayList<>();
        ways(who, new ArrayList<>(), all);
        all.sort((a, b) -> {
            if (a.size() != b.size()) return a.size() - b.size();
            for (int x = 0; x < a.size(); x++) if (!a.get(x).equals(b.get(x))) return a.get(x) - b.get(x);
            return 0;
        });
        int best = Integer.MAX_VALUE;
        List<Integer> way = List.of();
        for (List<Integer> one : all) {
            Now s = now.twin();
            for (int n : one) {
                s.dreams.set(n / 10, now.dreams.get(n % 10));
                s.dreams.set(n % 10, now.dreams.get(n / 10));
            }
            int sum = 0;
            for (int a = 0; a < w.guests.size(); a++) sum += duty(s, a);
            if (sum < best) {
                best = sum;
                way = one;
            }
        }
        return what == 0 ? best : what == 1 ? way.size() : way.isEmpty() ? -2 : way.get(0);
    }

    private int pays100(int guest, int set) {
        int duty = duty(now, guest);
        if ((set >> guest & 1) == 0) return 100 * duty;
        return w.fine * duty * eyes(now, guest) + 100 * (Integer.bitCount(set) - 1);
    }

    int declares(int i) {
        if (i < -1) return NONE;
        List<Integer> rests = new ArrayList<>();
        for (int set = 0; set < 64; set++) {
            if ((set & dreamers()) != set) continue;
            boolean ok = true;
            for (int a = 0; a < w.guests.size(); a++) {
                if ((dreamers() >> a & 1) == 1 && pays100(a, set ^ 1 << a) < pays100(a, set)) ok = false;
            }
            if (ok) rests.add(set);
        }
        if (i == -1) return rests.size();
        return i < rests.size() ? rests.get(i) : NONE;
    }

    int posts(int what) {
        if (what != 0 && what != 1) return NONE;
        for (int size = 0; size <= w.posts.size(); size++) {
            for (int set = 0; set < 1 << w.posts.size(); set++) {
                if (Integer.bitCount(set) != size) continue;
                boolean all = true;
                for (int a = 0; a < w.guests.size(); a++) {
                    int inn = now.lodged.get(a);
                    if (inn < 0) continue;
                    boolean watched = false;
                    for (int p = 0; p < w.posts.size(); p++) {
                        if ((set >> p & 1) == 1 && w.posts.get(p).contains(inn)) watched = true;
                    }
                    all &= watched;
                }
                if (all) return what == 0 ? size : set;
            }
        }
        return -2;
    }

    int year(int guest, int n, int s) {
        if (!g(guest) || n < 0 || n > 30 || s < 1 || s > 20) return -100000;
        int sum = 0;
        for (int seed = w.seed; seed < w.seed + s; seed++) {
            Now x = now.twin();
            for (int k = 0; k < n; k++) {
                night(x, seed);
                customs(x, seed);
            }
            sum += x.coins.get(guest);
        }
        return sum;
    }

    int poorBy(int guest) {
        if (!g(guest)) return NONE;
        Now x = now.twin();
        for (int k = 0; k <= 100; k++) {
            if (x.coins.get(guest) < 0) return k;
            night(x, w.seed);
            customs(x, w.seed);
        }
        return -2;
    }

    int shows(int guest) {
        if (!g(guest)) return NONE;
        return now.dreams.get(guest) == null ? -2 : eyes(now, guest);
    }

    // ---- told

    int tell(int thing) {
        if (!t(thing) || told.size() == 20) return NONE;
        told.add(thing);
        return told.size() - 1;
    }

    int forget() {
        int n = told.size();
        told.clear();
        return n;
    }

    int from(int k) {
        if (k < 0 || k > told.size()) return NONE;
        int bits = 0;
        for (int x = 0; x < w.inns.size(); x++) {
            boolean all = true;
            for (int thing : told.subList(0, k)) all &= w.weight(x, thing) > 0;
            if (all) bits |= 1 << x;
        }
        return bits;
    }

    int likeliest(int k) {
        if (k < 0 || k > told.size() || k > 6) return NONE;
        int best = -2;
        BigInteger bn = null;
        BigInteger bd = null;
        for (int x = 0; x < w.inns.size(); x++) {
            if ((from(k) >> x & 1) == 0) continue;
            BigInteger n = BigInteger.ONE;
            BigInteger d = BigInteger.ONE;
            for (int thing : told.subList(0, k)) {
                n = n.multiply(BigInteger.valueOf(w.weight(x, thing)));
                d = d.multiply(BigInteger.valueOf(w.all(x)));
            }
            if (best < 0 || n.multiply(bd).compareTo(bn.multiply(d)) > 0) {
                best = x;
                bn = n;
                bd = d;
            }
        }
        return best;
    }

    int whose(int k) {
        if (k < 0 || k > told.size()) return NONE;
        int bits = 0;
        for (int a = 0; a < w.guests.size(); a++) {
            int inn = now.lodged.get(a);
            if (inn >= 0 && (from(k) >> inn & 1) == 1) bits |= 1 << a;
        }
        return bits;
    }

    // ---- slots

    boolean hold(int slot) {
        if (slot < 0 || slot > 2) return false;
        slots[slot] = now.twin();
        return true;
    }

    boolean restore(int slot) {
        if (slot < 0 || slot > 2 || slots[slot] == null) return false;
        now = slots[slot].twin();
        done.clear();
        return true;
    }

    int count(int what) {
        int held = 0;
        for (Now s : slots) held += s == null ? 0 : 1;
        int[] all = {w.things.size(), w.inns.size(), w.guests.size(), w.posts.size(), now.night, now.customs, now.toInns,
            dreamers(), tape.size(), done.size(), told.size(), held, w.fine};
        return what >= 0 && what < all.length ? all[what] : NONE;
    }
}
