import java.util.Arrays;

/** A border at which duty is paid on what one dreamt the night before. */
public final class DreamDuty {
    public static final int NONE = -1;

    private static final int NOTHING = -2;
    private static final int NO_NUMBER = -100000;

    private static final int MOST_BYTES = 2000;
    private static final int MOST_THINGS = 7;
    private static final int MOST_INNS = 5;
    private static final int MOST_GUESTS = 6;
    private static final int MOST_POSTS = 6;
    private static final int MOST_TWINS = 3;
    private static final int MOST_KEPT = 5;
    private static final int MOST_UNITS = 99;
    private static final int MOST_OWED = 999;
    private static final int MOST_UNDONE = 40;
    private static final int MOST_TOLD = 20;
    private static final int MOST_LIKELIEST = 6;
    private static final int MOST_SET = 4;
    private static final int MOST_NIGHTS = 30;
    private static final int MOST_SEEDS = 20;
    private static final int MOST_POOR = 100;
    private static final int SLOTS = 3;
    private static final int HUNDRED = 100;
    // Each thing has a hundred units, twice or not.
    private static final int DREAMS_OF_A_THING = 200;

    private final int[] tape = new int[MOST_BYTES];
    private int tapeLength;
    private int faultPlace;
    private final Tokens tokens;
    private final Grammar grammar;
    private final Teller teller;
    private Text text;
    private Text spare;
    private final Border border;
    private final Border trial;
    private final History history;
    private final State[] slots;
    private final boolean[] held = new boolean[SLOTS];
    private final int[] told = new int[MOST_TOLD];
    private int toldCount;
    private final Lodgings lodgings;
    private final Pairings pairings;
    private final Rests rests;

    public DreamDuty() {
        tokens = new Tokens();
        grammar = new Grammar(tokens);
        teller = new Teller(tokens);
        text = new Text();
        spare = new Text();
        border = new Border();
        trial = new Border();
        history = new History();
        slots = new State[SLOTS];
        for (int slot = 0; slot < SLOTS; slot++) {
            slots[slot] = new State();
        }
        lodgings = new Lodgings();
        pairings = new Pairings();
        rests = new Rests();
        faultPlace = NONE;
        begin();
    }

    public int feed(int a, int b, int c, int d, int e) {
        if (tapeLength > MOST_BYTES - 20) {
            return NONE;
        }
        putWord(a);
        putWord(b);
        putWord(c);
        putWord(d);
        putWord(e);
        return tapeLength;
    }

    public int back(int n) {
        if (n < 0 || n > tapeLength) {
            return NONE;
        }
        tapeLength -= n;
        return tapeLength;
    }

    public int read() {
        tokens.scan(tape, tapeLength);
        tapeLength = 0;
        faultPlace = NONE;
        spare.clear();
        int fault = grammar.check(spare);
        if (fault != 0) {
            faultPlace = grammar.stopped();
            return fault;
        }
        fault = teller.check(spare);
        if (fault != 0) {
            faultPlace = teller.stopped();
            return fault;
        }
        Text former = text;
        text = spare;
        spare = former;
        begin();
        return 0;
    }

    public int place() {
        return faultPlace;
    }

    public int guest(int guest, int what) {
        if (!isGuest(guest)) {
            return NO_NUMBER;
        }
        State state = border.state;
        switch (what) {
            case 0:
                return state.coins[guest];
            case 1:
                return state.lodged[guest];
            case 2:
                return thingOf(state.dream[guest]);
            case 3:
                return unitsOf(state.dream[guest]);
            case 4:
                border.weighAll();
                return border.owed[guest];
            case 5:
                return state.keptCount[guest];
            case 6:
                return state.declared[guest];
            case 7:
                return state.seen[guest];
            default:
                return NO_NUMBER;
        }
    }

    public int inn(int inn, int what) {
        if (!isInn(inn)) {
            return NONE;
        }
        switch (what) {
            case 0:
                return border.lodgersOf(inn);
            case 1:
                return text.beds[inn] - Integer.bitCount(border.lodgersOf(inn));
            case 2:
                return border.state.lastThing[inn];
            case 3:
                return border.state.lastBy[inn];
            case 4:
                return text.allWeights[inn];
            default:
                return NONE;
        }
    }

    public int gives(int inn, int thing) {
        if (!isInn(inn) || !isThing(thing)) {
            return NONE;
        }
        return text.weightOf(inn, thing);
    }

    public boolean lodge(int guest, int inn) {
        if (!isGuest(guest) || (inn != NONE && !isInn(inn))) {
            return false;
        }
        int goal = inn == NONE ? NOTHING : inn;
        if (border.state.lodged[guest] == goal) {
            return false;
        }
        if (goal >= 0 && Integer.bitCount(border.lodgersOf(goal)) >= text.beds[goal]) {
            return false;
        }
        history.remember(border.state);
        border.state.lodged[guest] = goal;
        return true;
    }

    public int nights(int n) {
        if (n < 0 || n > MOST_NIGHTS) {
            return NONE;
        }
        if (n > 0) {
            history.remember(border.state);
        }
        for (int night = 0; night < n; night++) {
            border.sleep();
        }
        return border.state.night;
    }

    public int morning() {
        if (border.dreamers() == 0) {
            return NOTHING;
        }
        history.remember(border.state);
        return border.customs();
    }

    public boolean swap(int guest, int other) {
        if (!isGuest(guest) || !isGuest(other) || guest == other) {
            return false;
        }
        int[] dream = border.state.dream;
        if (dream[guest] == NOTHING && dream[other] == NOTHING) {
            return false;
        }
        history.remember(border.state);
        border.state.change(guest, other);
        return true;
    }

    public int deposit(int guest, boolean back) {
        if (!isGuest(guest)) {
            return NONE;
        }
        State state = border.state;
        boolean dreams = state.dream[guest] != NOTHING;
        int count = state.keptCount[guest];
        if (dreams == back || count == (back ? 0 : MOST_KEPT)) {
            return NOTHING;
        }
        history.remember(state);
        if (back) {
            state.takeBack(guest);
        } else {
            state.leave(guest);
        }
        return state.keptCount[guest];
    }

    public boolean undo() {
        return history.goBack(border.state);
    }

    public int owes(int guest, int thing, int units) {
        if (!isGuest(guest) || !isThing(thing) || units < 0 || units > MOST_UNITS) {
            return NONE;
        }
        int inn = border.state.lodged[guest];
        int twice = border.twiceAt(guest, inn, thing);
        return border.dutyFor(guest, inn, dreamOf(thing, units, twice));
    }

    public int mean(int guest, int inn, boolean below) {
        if (!isGuest(guest) || !isInn(inn)) {
            return NONE;
        }
        int all = text.allWeights[inn];
        int sum = border.meanSum(guest, inn);
        if (sum == 0 || all == 0) {
            return below ? 1 : 0;
        }
        return (below ? all : sum) / (int) commonDivisor(sum, all);
    }

    public int sure(int thing) {
        if (!isThing(thing)) {
            return NONE;
        }
        int best = NOTHING;
        for (int inn = 0; inn < text.inns; inn++) {
            int weight = text.weightOf(inn, thing);
            if (weight > 0 && (best < 0
                    || weight * text.allWeights[best] > text.weightOf(best, thing) * text.allWeights[inn])) {
                best = inn;
            }
        }
        return best;
    }

    public int lodging(int set) {
        if (!isLodgingSet(set)) {
            return NONE;
        }
        return lodgings.find(border, set) ? lodgings.sum() : NOTHING;
    }

    public int lodgingAt(int set, int i) {
        if (!isLodgingSet(set) || i < 0 || i >= Integer.bitCount(set)) {
            return NONE;
        }
        return lodgings.find(border, set) ? lodgings.innOf(i) : NOTHING;
    }

    public int swaps(int what) {
        if (what < 0 || what > 2) {
            return NONE;
        }
        trial.takeOver(border);
        pairings.find(trial);
        if (what == 0) {
            return pairings.bestSum;
        }
        return what == 1 ? pairings.bestCount : pairings.bestFirst;
    }

    public int declares(int i) {
        if (i < NONE) {
            return NONE;
        }
        rests.weigh(border);
        int found = 0;
        for (int set = 0; set < 1 << text.guests; set++) {
            if (rests.holds(set)) {
                if (found == i) {
                    return set;
                }
                found++;
            }
        }
        return i == NONE ? found : NONE;
    }

    public int posts(int what) {
        if (what != 0 && what != 1) {
            return NONE;
        }
        int needed = border.usedInns();
        int best = NOTHING;
        for (int set = 0; set < 1 << text.posts; set++) {
            if ((needed & ~text.watchedBy(set)) == 0
                    && (best < 0 || Integer.bitCount(set) < Integer.bitCount(best))) {
                best = set;
            }
        }
        return best < 0 || what == 1 ? best : Integer.bitCount(best);
    }

    public int year(int guest, int n, int s) {
        if (!isGuest(guest) || n < 0 || n > MOST_NIGHTS || s < 1 || s > MOST_SEEDS) {
            return NO_NUMBER;
        }
        int sum = 0;
        for (int more = 0; more < s; more++) {
            trial.takeOver(border);
            trial.seed = text.seed + more;
            for (int night = 0; night < n; night++) {
                trial.sleep();
                trial.customs();
            }
            sum += trial.state.coins[guest];
        }
        return sum;
    }

    public int poorBy(int guest) {
        if (!isGuest(guest)) {
            return NONE;
        }
        trial.takeOver(border);
        for (int night = 0; night <= MOST_POOR; night++) {
            if (trial.state.coins[guest] < 0) {
                return night;
            }
            trial.sleep();
            trial.customs();
        }
        return NOTHING;
    }

    public int shows(int guest) {
        if (!isGuest(guest)) {
            return NONE;
        }
        return border.state.dream[guest] == NOTHING ? NOTHING : border.eyesOf(guest);
    }

    public int tell(int thing) {
        if (!isThing(thing) || toldCount >= MOST_TOLD) {
            return NONE;
        }
        told[toldCount] = thing;
        toldCount++;
        return toldCount - 1;
    }

    public int forget() {
        int count = toldCount;
        toldCount = 0;
        return count;
    }

    public int from(int k) {
        return isKnown(k) ? innsOf(k) : NONE;
    }

    public int likeliest(int k) {
        if (!isKnown(k) || k > MOST_LIKELIEST) {
            return NONE;
        }
        int inns = innsOf(k);
        int best = NOTHING;
        for (int inn = 0; inn < text.inns; inn++) {
            if ((inns >> inn & 1) == 1 && (best < 0
                    || weightsOf(inn, k) * allWeightsOf(best, k) > weightsOf(best, k) * allWeightsOf(inn, k))) {
                best = inn;
            }
        }
        return best;
    }

    public int whose(int k) {
        if (!isKnown(k)) {
            return NONE;
        }
        int inns = innsOf(k);
        int guests = 0;
        for (int inn = 0; inn < text.inns; inn++) {
            if ((inns >> inn & 1) == 1) {
                guests |= border.lodgersOf(inn);
            }
        }
        return guests;
    }

    public boolean hold(int slot) {
        if (slot < 0 || slot >= SLOTS) {
            return false;
        }
        slots[slot].copy(border.state);
        held[slot] = true;
        return true;
    }

    public boolean restore(int slot) {
        if (slot < 0 || slot >= SLOTS || !held[slot]) {
            return false;
        }
        border.state.copy(slots[slot]);
        history.clear();
        return true;
    }

    public int count(int what) {
        switch (what) {
            case 0:
                return text.things;
            case 1:
                return text.inns;
            case 2:
                return text.guests;
            case 3:
                return text.posts;
            case 4:
                return border.state.night;
            case 5:
                return border.state.paidAtCustoms;
            case 6:
                return border.state.paidToInns;
            case 7:
                return border.dreamers();
            case 8:
                return tapeLength;
            case 9:
                return history.size;
            case 10:
                return toldCount;
            case 11:
                return heldSlots();
            case 12:
                return text.fine;
            default:
                return NONE;
        }
    }

    private void begin() {
        border.begin(text);
        history.clear();
        Arrays.fill(told, 0);
        toldCount = 0;
        for (int slot = 0; slot < SLOTS; slot++) {
            held[slot] = false;
        }
    }

    private void putWord(int word) {
        for (int shift = 24; shift >= 0 && tapeLength < MOST_BYTES; shift -= 8) {
            tape[tapeLength] = word >>> shift & 255;
            tapeLength++;
        }
    }

    private boolean isThing(int thing) {
        return thing >= 0 && thing < text.things;
    }

    private boolean isInn(int inn) {
        return inn >= 0 && inn < text.inns;
    }

    private boolean isGuest(int guest) {
        return guest >= 0 && guest < text.guests;
    }

    private boolean isLodgingSet(int set) {
        return set > 0 && set < 1 << text.guests && Integer.bitCount(set) <= MOST_SET;
    }

    private boolean isKnown(int k) {
        return k >= 0 && k <= toldCount;
    }

    private int heldSlots() {
        int count = 0;
        for (int slot = 0; slot < SLOTS; slot++) {
            count += held[slot] ? 1 : 0;
        }
        return count;
    }

    private int innsOf(int k) {
        int inns = 0;
        for (int inn = 0; inn < text.inns; inn++) {
            if (weightsOf(inn, k) > 0) {
                inns |= 1 << inn;
            }
        }
        return inns;
    }

    // Up to twenty things would overflow a product, so it is held to one sign
    // where only "above 0" is asked: beyond six it is never compared.
    private long weightsOf(int inn, int k) {
        long product = 1;
        for (int i = 0; i < k && i < toldCount; i++) {
            long weight = text.weightOf(inn, told[i]);
            product = i < MOST_LIKELIEST ? product * weight : product * Math.min(weight, 1);
        }
        return product;
    }

    private long allWeightsOf(int inn, int k) {
        long product = 1;
        for (int i = 0; i < k && i < MOST_LIKELIEST; i++) {
            product *= text.allWeights[inn];
        }
        return product;
    }

    private static int dreamOf(int thing, int units, int twice) {
        return thing * DREAMS_OF_A_THING + units * 2 + twice;
    }

    private static int thingOf(int dream) {
        return dream == NOTHING ? NOTHING : dream / DREAMS_OF_A_THING;
    }

    private static int unitsOf(int dream) {
        return dream == NOTHING ? NOTHING : dream % DREAMS_OF_A_THING / 2;
    }

    private static int twiceOf(int dream) {
        return dream == NOTHING ? 0 : dream % 2;
    }

    private static int clamp(int number, int most) {
        return Math.max(0, Math.min(most, number));
    }

    private static long commonDivisor(long a, long b) {
        long larger = a;
        long lesser = b;
        for (int step = 0; step < 200 && lesser != 0; step++) {
            long rest = larger % lesser;
            larger = lesser;
            lesser = rest;
        }
        return larger == 0 ? 1 : larger;
    }

    /** A law as a row of steps for a stack; jumps go forward only. */
    private static final class Law {
        // A step from 0 on is a number; -1 to -9 are the variables in the order of the words.
        static final int ADD = -10;
        static final int SUBTRACT = -11;
        static final int MULTIPLY = -12;
        static final int DIVIDE = -13;
        static final int UNLESS_LESS = -14;
        static final int ANSWER = -15;
        static final int VARIABLES = 9;

        private final int[] code = new int[512];
        private final int[] stack = new int[64];
        private int size;

        void clear() {
            size = 0;
        }

        void add(int step) {
            if (size < code.length) {
                code[size] = step;
                size++;
            }
        }

        /** The place of the jump's goal, which is known only later. */
        int addJump() {
            add(UNLESS_LESS);
            add(0);
            return size - 1;
        }

        void land(int jump) {
            if (jump >= 0 && jump < size) {
                code[jump] = size;
            }
        }

        int tells(int[] values) {
            int top = 0;
            for (int at = 0; at < size; at++) {
                int step = code[at];
                if (step > ADD) {
                    if (top >= stack.length) {
                        return 0;
                    }
                    stack[top] = step >= 0 ? step : values[-1 - step];
                    top++;
                } else if (step == ANSWER) {
                    return top > 0 ? stack[top - 1] : 0;
                } else {
                    if (top < 2 || (step == DIVIDE && stack[top - 1] == 0)) {
                        return 0;
                    }
                    top -= 2;
                    int left = stack[top];
                    int right = stack[top + 1];
                    if (step == UNLESS_LESS) {
                        at = Math.max(at + 1, left < right ? 0 : goalOf(at));
                    } else {
                        stack[top] = worked(step, left, right);
                        top++;
                    }
                }
            }
            return 0;
        }

        // One less than the goal, as the loop itself goes one on.
        private int goalOf(int jump) {
            return jump + 1 < size ? code[jump + 1] - 1 : size;
        }

        private static int worked(int step, int left, int right) {
            switch (step) {
                case ADD:
                    return left + right;
                case SUBTRACT:
                    return left - right;
                case MULTIPLY:
                    return left * right;
                default:
                    return right == 0 ? 0 : left / right;
            }
        }
    }

    /** What a text tells. */
    private static final class Text {
        int things;
        int inns;
        int guests;
        int posts;
        int fine;
        int seed;
        final int[] tariff = new int[MOST_THINGS];
        final int[] price = new int[MOST_INNS];
        final int[] beds = new int[MOST_INNS];
        final int[] cheese = new int[MOST_INNS];
        final int[] weight = new int[MOST_INNS * MOST_THINGS];
        final int[] allWeights = new int[MOST_INNS];
        final int[] coins = new int[MOST_GUESTS];
        final int[] honest = new int[MOST_GUESTS];
        final int[] degree = new int[MOST_GUESTS];
        final int[] twin = new int[MOST_GUESTS];
        final int[] watches = new int[MOST_POSTS];
        final Law muchLaw = new Law();
        final Law owesLaw = new Law();
        final Law showsLaw = new Law();

        Text() {
            clear();
        }

        void clear() {
            things = 0;
            inns = 0;
            guests = 0;
            posts = 0;
            fine = 2;
            seed = 0;
            Arrays.fill(weight, 1);
            Arrays.fill(twin, NONE);
            Arrays.fill(watches, 0);
            muchLaw.clear();
            muchLaw.add(1);
            muchLaw.add(Law.ANSWER);
            owesLaw.clear();
            owesLaw.add(Tokens.variable(Tokens.TARIFF));
            owesLaw.add(Tokens.variable(Tokens.UNITS));
            owesLaw.add(Law.MULTIPLY);
            owesLaw.add(Law.ANSWER);
            showsLaw.clear();
            showsLaw.add(50);
            showsLaw.add(Law.ANSWER);
        }

        /** Things may be told behind an inn, so weights are added up at the end only. */
        void addUp() {
            for (int inn = 0; inn < inns; inn++) {
                allWeights[inn] = 0;
                for (int thing = 0; thing < things; thing++) {
                    allWeights[inn] += weightOf(inn, thing);
                }
            }
        }

        int weightOf(int inn, int thing) {
            return weight[inn * MOST_THINGS + thing];
        }

        int watchedBy(int set) {
            int watched = 0;
            for (int post = 0; post < posts; post++) {
                if ((set >> post & 1) == 1) {
                    watched |= watches[post];
                }
            }
            return watched;
        }

        Law lawOf(int word) {
            if (word == Tokens.MUCH) {
                return muchLaw;
            }
            return word == Tokens.OWES ? owesLaw : showsLaw;
        }
    }

    /** What goes on, and can be held and undone. */
    private static final class State {
        int night;
        int paidAtCustoms;
        int paidToInns;
        final int[] coins = new int[MOST_GUESTS];
        final int[] lodged = new int[MOST_GUESTS];
        final int[] dream = new int[MOST_GUESTS];
        final int[] kept = new int[MOST_GUESTS * MOST_KEPT];
        final int[] keptCount = new int[MOST_GUESTS];
        final int[] declared = new int[MOST_GUESTS];
        final int[] seen = new int[MOST_GUESTS];
        final int[] lastThing = new int[MOST_INNS];
        final int[] lastBy = new int[MOST_INNS];

        void begin(Text text) {
            night = 0;
            paidAtCustoms = 0;
            paidToInns = 0;
            for (int guest = 0; guest < text.guests; guest++) {
                coins[guest] = text.coins[guest];
            }
            Arrays.fill(lodged, NOTHING);
            Arrays.fill(dream, NOTHING);
            Arrays.fill(keptCount, 0);
            Arrays.fill(declared, 0);
            Arrays.fill(seen, 0);
            Arrays.fill(lastThing, NOTHING);
            Arrays.fill(lastBy, NOTHING);
        }

        void copy(State other) {
            night = other.night;
            paidAtCustoms = other.paidAtCustoms;
            paidToInns = other.paidToInns;
            System.arraycopy(other.coins, 0, coins, 0, MOST_GUESTS);
            System.arraycopy(other.lodged, 0, lodged, 0, MOST_GUESTS);
            System.arraycopy(other.dream, 0, dream, 0, MOST_GUESTS);
            System.arraycopy(other.kept, 0, kept, 0, MOST_GUESTS * MOST_KEPT);
            System.arraycopy(other.keptCount, 0, keptCount, 0, MOST_GUESTS);
            System.arraycopy(other.declared, 0, declared, 0, MOST_GUESTS);
            System.arraycopy(other.seen, 0, seen, 0, MOST_GUESTS);
            System.arraycopy(other.lastThing, 0, lastThing, 0, MOST_INNS);
            System.arraycopy(other.lastBy, 0, lastBy, 0, MOST_INNS);
        }

        void change(int guest, int other) {
            int former = dream[guest];
            dream[guest] = dream[other];
            dream[other] = former;
        }

        void leave(int guest) {
            if (keptCount[guest] < MOST_KEPT) {
                kept[guest * MOST_KEPT + keptCount[guest]] = dream[guest];
                keptCount[guest]++;
                dream[guest] = NOTHING;
            }
        }

        void takeBack(int guest) {
            if (keptCount[guest] > 0) {
                keptCount[guest]--;
                dream[guest] = kept[guest * MOST_KEPT + keptCount[guest]];
            }
        }
    }

    /** The last things done, as the states ahead of them, in a ring. */
    private static final class History {
        private final State[] past = new State[MOST_UNDONE];
        private int next;
        int size;

        History() {
            for (int i = 0; i < MOST_UNDONE; i++) {
                past[i] = new State();
            }
        }

        void clear() {
            next = 0;
            size = 0;
        }

        void remember(State state) {
            past[next].copy(state);
            next = (next + 1) % MOST_UNDONE;
            size = Math.min(size + 1, MOST_UNDONE);
        }

        boolean goBack(State state) {
            if (size == 0) {
                return false;
            }
            size--;
            next = (next + MOST_UNDONE - 1) % MOST_UNDONE;
            state.copy(past[next]);
            return true;
        }
    }

    /** A text cut into tokens. */
    private static final class Tokens {
        static final int MOST = 400;
        static final int NAME = 1;
        static final int INT = 2;
        static final int BAD = 3;
        static final int END = 4;
        // Signs have the number of their byte as kind, words one from 200 on.
        static final int THING = 200;
        static final int INN = 201;
        static final int GIVES = 202;
        static final int GUEST = 203;
        static final int TWINS = 204;
        static final int POST = 205;
        static final int MUCH = 206;
        static final int OWES = 207;
        static final int SHOWS = 208;
        static final int FINE = 209;
        static final int SEED = 210;
        static final int IF = 211;
        static final int THEN = 212;
        static final int ELSE = 213;
        // The variables, in the order in which a border looks them up.
        static final int NIGHT = 214;
        static final int TARIFF = 215;
        static final int UNITS = 216;
        static final int ALIKE = 222;

        private static final String WORDS = "thing inn gives guest twins post much owes shows fine seed if then else night tariff units cheese degree honest which twice alike ";
        private static final String SIGNS = ";=+-*/<()";
        private static final int WORD_COUNT = 23;
        private static final int MOST_LETTERS = 8;
        private static final int MOST_DIGITS = 4;

        private final long[] words = new long[WORD_COUNT];
        // One more than a text may have: the grammar tells of the 401st.
        private final int[] kinds = new int[MOST + 1];
        private final int[] places = new int[MOST + 1];
        private final long[] values = new long[MOST + 1];
        private int count;
        private int textLength;

        Tokens() {
            int word = 0;
            for (int i = 0; i < WORDS.length() && word < WORD_COUNT; i++) {
                int sign = WORDS.charAt(i);
                if (sign == ' ') {
                    word++;
                } else {
                    words[word] = words[word] * 27 + (sign - 'a' + 1);
                }
            }
        }

        void scan(int[] bytes, int length) {
            count = 0;
            textLength = length;
            int at = 0;
            for (int step = 0; step < length && at < length && count < kinds.length; step++) {
                if (isBlank(bytes[at])) {
                    at++;
                } else {
                    int end = endOf(bytes, at, length);
                    places[count] = at;
                    values[count] = 0;
                    kinds[count] = kindOf(bytes, at, end);
                    count++;
                    at = end;
                }
            }
        }

        int kindAt(int at) {
            return at >= 0 && at < count ? kinds[at] : END;
        }

        int placeAt(int at) {
            return at >= 0 && at < count ? places[at] : textLength;
        }

        long valueAt(int at) {
            return at >= 0 && at < count ? values[at] : 0;
        }

        /** The step of a law that stands for a word. */
        static int variable(int word) {
            return NIGHT - 1 - word;
        }

        private static boolean isBlank(int sign) {
            return sign == 9 || sign == 10 || sign == 13 || sign == 32;
        }

        private static boolean isLetter(int sign) {
            return sign >= 'a' && sign <= 'z';
        }

        private static boolean isDigit(int sign) {
            return sign >= '0' && sign <= '9';
        }

        private static int endOf(int[] bytes, int from, int length) {
            boolean letters = isLetter(bytes[from]);
            boolean digits = isDigit(bytes[from]);
            int end = from + 1;
            while (end < length && (letters && isLetter(bytes[end]) || digits && isDigit(bytes[end]))) {
                end++;
            }
            return end;
        }

        private int kindOf(int[] bytes, int from, int end) {
            int sign = bytes[from];
            if (isDigit(sign)) {
                return end - from > MOST_DIGITS ? BAD : intOf(bytes, from, end);
            }
            if (isLetter(sign)) {
                return end - from > MOST_LETTERS ? BAD : nameOf(bytes, from, end);
            }
            return SIGNS.indexOf((char) sign) >= 0 ? sign : BAD;
        }

        private int intOf(int[] bytes, int from, int end) {
            long value = 0;
            for (int i = from; i < end; i++) {
                value = value * 10 + (bytes[i] - '0');
            }
            values[count] = value;
            return INT;
        }

        // A name is kept as a number to the base 27, which tells it from every other one.
        private int nameOf(int[] bytes, int from, int end) {
            long value = 0;
            for (int i = from; i < end; i++) {
                value = value * 27 + (bytes[i] - 'a' + 1);
            }
            values[count] = value;
            for (int word = 0; word < WORD_COUNT; word++) {
                if (words[word] == value) {
                    return THING + word;
                }
            }
            return NAME;
        }
    }

    /** Looks for the faults of syntax and of room, and puts the laws in place as it goes. */
    private static final class Grammar {
        private static final int SYNTAX = 1;
        private static final int ROOM = 2;
        private static final int MOST_IFS = 4;
        private static final int MOST_DEPTH = 6;

        private final Tokens tokens;
        private final int[] told = new int[Tokens.SEED - Tokens.THING + 1];
        // Signs of an expression whose right side is not read yet, and brackets that are open.
        private final int[] waiting = new int[32];
        private int waitingCount;
        private int depth;
        private int at;
        private int fault;

        Grammar(Tokens tokens) {
            this.tokens = tokens;
        }

        int check(Text text) {
            at = 0;
            fault = 0;
            Arrays.fill(told, 0);
            for (int i = 0; i <= Tokens.MOST && fault == 0 && tokens.kindAt(at) != Tokens.END; i++) {
                tellOne(text);
            }
            return fault;
        }

        int stopped() {
            return tokens.placeAt(at);
        }

        private void tellOne(Text text) {
            int word = tokens.kindAt(at);
            if (word < Tokens.THING || word > Tokens.SEED) {
                fault = SYNTAX;
                return;
            }
            told[word - Tokens.THING]++;
            if (told[word - Tokens.THING] > mostOf(word)) {
                fault = ROOM;
                return;
            }
            step();
            if (word == Tokens.POST) {
                postOf();
            } else if (word >= Tokens.MUCH && word <= Tokens.SHOWS) {
                lawOf(text.lawOf(word));
            } else {
                takeAll(shapeOf(word));
            }
        }

        private static int mostOf(int word) {
            switch (word) {
                case Tokens.THING:
                    return MOST_THINGS;
                case Tokens.INN:
                    return MOST_INNS;
                case Tokens.GUEST:
                    return MOST_GUESTS;
                case Tokens.TWINS:
                    return MOST_TWINS;
                case Tokens.POST:
                    return MOST_POSTS;
                default:
                    return Tokens.MOST;
            }
        }

        /** What stands behind a word: n a NAME, 1 an INT. */
        private static String shapeOf(int word) {
            switch (word) {
                case Tokens.THING:
                    return "n1;";
                case Tokens.INN:
                case Tokens.GUEST:
                    return "n111;";
                case Tokens.GIVES:
                    return "nn1;";
                case Tokens.TWINS:
                    return "nn;";
                default:
                    return "1;";
            }
        }

        private void takeAll(String shape) {
            for (int i = 0; i < shape.length(); i++) {
                int sign = shape.charAt(i);
                if (sign == 'n') {
                    take(Tokens.NAME);
                } else {
                    take(sign == '1' ? Tokens.INT : sign);
                }
            }
        }

        private void postOf() {
            take(Tokens.NAME);
            for (int i = 0; i <= Tokens.MOST && fault == 0 && tokens.kindAt(at) == Tokens.NAME; i++) {
                step();
            }
            take(';');
        }

        private void lawOf(Law law) {
            law.clear();
            take('=');
            for (int i = 0; i <= MOST_IFS && fault == 0 && tokens.kindAt(at) == Tokens.IF; i++) {
                if (i == MOST_IFS) {
                    fault = ROOM;
                    return;
                }
                step();
                expression(law, '<');
                expression(law, Tokens.THEN);
                int jump = law.addJump();
                expression(law, Tokens.ELSE);
                law.add(Law.ANSWER);
                law.land(jump);
            }
            expression(law, ';');
            law.add(Law.ANSWER);
        }

        /** An expression, and the token that ends it. */
        private void expression(Law law, int end) {
            waitingCount = 0;
            depth = 0;
            boolean ahead = false;
            boolean ended = false;
            for (int i = 0; i <= Tokens.MOST && fault == 0 && !ended; i++) {
                if (!ahead) {
                    ahead = unit(law);
                } else if (depth == 0 && tokens.kindAt(at) == end) {
                    unwind(law, 0);
                    step();
                    ended = true;
                } else {
                    ahead = behindUnit(law);
                }
            }
        }

        /** Where a unit is due: whether one stands ahead then. */
        private boolean unit(Law law) {
            int kind = tokens.kindAt(at);
            if (kind == '(') {
                open();
                return false;
            }
            if (kind == Tokens.INT) {
                law.add((int) tokens.valueAt(at));
            } else if (kind >= Tokens.NIGHT && kind <= Tokens.ALIKE) {
                law.add(Tokens.variable(kind));
            } else {
                fault = SYNTAX;
                return false;
            }
            step();
            return true;
        }

        private void open() {
            if (depth >= MOST_DEPTH) {
                fault = ROOM;
                return;
            }
            depth++;
            push('(');
            step();
        }

        /** Behind a unit: whether one stands ahead then. */
        private boolean behindUnit(Law law) {
            int kind = tokens.kindAt(at);
            if (kind == ')' && depth > 0) {
                unwind(law, 0);
                waitingCount = Math.max(0, waitingCount - 1);
                depth--;
                step();
                return true;
            }
            int rank = rankOf(kind);
            if (rank == 0) {
                fault = SYNTAX;
                return true;
            }
            unwind(law, rank);
            push(kind);
            step();
            return false;
        }

        private void push(int sign) {
            if (waitingCount < waiting.length) {
                waiting[waitingCount] = sign;
                waitingCount++;
            }
        }

        /** Signs that bind as much as the rank are worked out, back to the last open bracket. */
        private void unwind(Law law, int rank) {
            while (waitingCount > 0 && waiting[waitingCount - 1] != '('
                    && rankOf(waiting[waitingCount - 1]) >= rank) {
                waitingCount--;
                law.add(stepOf(waiting[waitingCount]));
            }
        }

        private static int rankOf(int sign) {
            if (sign == '+' || sign == '-') {
                return 1;
            }
            return sign == '*' || sign == '/' ? 2 : 0;
        }

        private static int stepOf(int sign) {
            switch (sign) {
                case '+':
                    return Law.ADD;
                case '-':
                    return Law.SUBTRACT;
                case '*':
                    return Law.MULTIPLY;
                default:
                    return Law.DIVIDE;
            }
        }

        private void take(int kind) {
            if (fault != 0) {
                return;
            }
            if (tokens.kindAt(at) == kind) {
                step();
            } else {
                fault = SYNTAX;
            }
        }

        private void step() {
            if (at >= Tokens.MOST) {
                fault = ROOM;
            } else {
                at++;
            }
        }
    }

    /** Reads what a text without faults of syntax and room tells, and looks for the other faults. */
    private static final class Teller {
        private static final int TWICE = 3;
        private static final int NAME = 4;
        private static final int WRONG = 5;
        private static final int MOST_NAMES = MOST_THINGS + MOST_INNS + MOST_GUESTS + MOST_POSTS;

        private final Tokens tokens;
        private final long[] names = new long[MOST_NAMES];
        private final int[] sorts = new int[MOST_NAMES];
        private final int[] numbers = new int[MOST_NAMES];
        private int nameCount;
        private int at;
        private int fault;
        private int faultAt;

        Teller(Tokens tokens) {
            this.tokens = tokens;
        }

        int check(Text text) {
            nameCount = 0;
            at = 0;
            fault = 0;
            faultAt = 0;
            for (int i = 0; i <= Tokens.MOST && fault == 0 && tokens.kindAt(at) != Tokens.END; i++) {
                tellOne(text);
            }
            text.addUp();
            return fault;
        }

        int stopped() {
            return tokens.placeAt(faultAt);
        }

        private void tellOne(Text text) {
            int word = tokens.kindAt(at);
            at++;
            switch (word) {
                case Tokens.THING:
                    thingOf(text);
                    break;
                case Tokens.INN:
                    innOf(text);
                    break;
                case Tokens.GIVES:
                    weightOf(text);
                    break;
                case Tokens.GUEST:
                    guestOf(text);
                    break;
                case Tokens.TWINS:
                    twinsOf(text);
                    break;
                case Tokens.POST:
                    postOf(text);
                    break;
                case Tokens.FINE:
                    text.fine = number(1, 9);
                    break;
                case Tokens.SEED:
                    text.seed = number(0, 9999);
                    break;
                default:
                    break;
            }
            goBehindSemicolon();
        }

        private void thingOf(Text text) {
            int thing = text.things;
            if (thing < MOST_THINGS) {
                newName(Tokens.THING, thing);
                text.tariff[thing] = number(0, 99);
                text.things++;
            }
        }

        private void innOf(Text text) {
            int inn = text.inns;
            if (inn < MOST_INNS) {
                newName(Tokens.INN, inn);
                text.price[inn] = number(0, 99);
                text.beds[inn] = number(1, 7);
                text.cheese[inn] = number(0, 9);
                text.inns++;
            }
        }

        private void guestOf(Text text) {
            int guest = text.guests;
            if (guest < MOST_GUESTS) {
                newName(Tokens.GUEST, guest);
                text.coins[guest] = number(0, 999);
                text.honest[guest] = number(0, 100);
                text.degree[guest] = number(0, 9);
                text.guests++;
            }
        }

        private void weightOf(Text text) {
            int inn = formerName(Tokens.INN);
            int thing = formerName(Tokens.THING);
            int weight = number(0, 9);
            if (inn >= 0 && thing >= 0) {
                text.weight[inn * MOST_THINGS + thing] = weight;
            }
        }

        private void twinsOf(Text text) {
            int first = newTwin(text, NONE);
            int second = newTwin(text, first);
            if (first >= 0 && second >= 0) {
                text.twin[first] = second;
                text.twin[second] = first;
            }
        }

        private int newTwin(Text text, int other) {
            int place = at;
            int guest = formerName(Tokens.GUEST);
            if (guest >= 0 && (guest == other || text.twin[guest] >= 0)) {
                fail(TWICE, place);
            }
            return guest;
        }

        private void postOf(Text text) {
            int post = text.posts;
            if (post >= MOST_POSTS) {
                return;
            }
            newName(Tokens.POST, post);
            for (int i = 0; i <= Tokens.MOST && tokens.kindAt(at) == Tokens.NAME; i++) {
                int place = at;
                int inn = formerName(Tokens.INN);
                if (inn >= 0) {
                    if ((text.watches[post] >> inn & 1) == 1) {
                        fail(TWICE, place);
                    }
                    text.watches[post] |= 1 << inn;
                }
            }
            text.posts++;
        }

        private void newName(int sort, int number) {
            if (find(tokens.valueAt(at)) >= 0) {
                fail(TWICE, at);
            } else if (nameCount < MOST_NAMES) {
                names[nameCount] = tokens.valueAt(at);
                sorts[nameCount] = sort;
                numbers[nameCount] = number;
                nameCount++;
            }
            at++;
        }

        private int formerName(int sort) {
            int found = find(tokens.valueAt(at));
            boolean fits = found >= 0 && sorts[found] == sort;
            if (!fits) {
                fail(NAME, at);
            }
            at++;
            return fits ? numbers[found] : NONE;
        }

        private int find(long name) {
            for (int i = 0; i < nameCount; i++) {
                if (names[i] == name) {
                    return i;
                }
            }
            return NONE;
        }

        private int number(int least, int most) {
            int value = (int) tokens.valueAt(at);
            if (value < least || value > most) {
                fail(WRONG, at);
            }
            at++;
            return value;
        }

        private void goBehindSemicolon() {
            for (int i = 0; i <= Tokens.MOST && tokens.kindAt(at) != ';'
                    && tokens.kindAt(at) != Tokens.END; i++) {
                at++;
            }
            at++;
        }

        // The text is gone through from its first byte on, so the first fault is the one to tell.
        private void fail(int number, int place) {
            if (fault == 0) {
                fault = number;
                faultAt = place;
            }
        }
    }

    /** What a text's words do to a state. */
    private static final class Border {
        private static final int DECLARING = 16;
        private static final int SHOWING = 32;

        final State state = new State();
        final int[] owed = new int[MOST_GUESTS];
        private final int[] values = new int[Law.VARIABLES];
        Text text;
        int seed;

        void begin(Text told) {
            text = told;
            seed = told.seed;
            state.begin(told);
        }

        /** For trials of what would be. */
        void takeOver(Border other) {
            text = other.text;
            seed = other.seed;
            state.copy(other.state);
        }

        int lodgersOf(int inn) {
            int guests = 0;
            for (int guest = 0; guest < text.guests; guest++) {
                if (state.lodged[guest] == inn) {
                    guests |= 1 << guest;
                }
            }
            return guests;
        }

        int usedInns() {
            int inns = 0;
            for (int guest = 0; guest < text.guests; guest++) {
                if (state.lodged[guest] >= 0) {
                    inns |= 1 << state.lodged[guest];
                }
            }
            return inns;
        }

        int dreamers() {
            int guests = 0;
            for (int guest = 0; guest < text.guests; guest++) {
                if (state.dream[guest] != NOTHING) {
                    guests |= 1 << guest;
                }
            }
            return guests;
        }

        void sleep() {
            for (int guest = 0; guest < text.guests; guest++) {
                int inn = state.lodged[guest];
                if (inn >= 0) {
                    state.coins[guest] -= text.price[inn];
                    state.paidToInns += text.price[inn];
                    dreamAt(guest, inn);
                }
            }
            state.night++;
        }

        private void dreamAt(int guest, int inn) {
            int thing = drawn(guest, inn);
            if (thing < 0) {
                state.dream[guest] = NOTHING;
                return;
            }
            state.dream[guest] = dreamWould(guest, inn, thing);
            state.lastThing[inn] = thing;
            state.lastBy[inn] = guest;
        }

        private int drawn(int guest, int inn) {
            int all = text.allWeights[inn];
            if (all <= 0) {
                return NOTHING;
            }
            int left = lot(all, guest);
            for (int thing = 0; thing < text.things; thing++) {
                left -= text.weightOf(inn, thing);
                if (left < 0) {
                    return thing;
                }
            }
            return NOTHING;
        }

        private int lot(int n, int which) {
            int h = stirred(stirred(seed, 63), 64 * state.night + which);
            return n > 0 ? (h >>> 1) % n : 0;
        }

        private static int stirred(int h, int it) {
            int stirred = (h ^ it) * 1103515245 + 12345;
            return stirred ^ stirred >>> 15;
        }

        /** The dream of a thing, if a guest dreamt it at an inn now. */
        private int dreamWould(int guest, int inn, int thing) {
            int twice = twiceAt(guest, inn, thing);
            look(guest, inn, dreamOf(thing, 0, twice));
            return dreamOf(thing, clamp(text.muchLaw.tells(values), MOST_UNITS), twice);
        }

        int twiceAt(int guest, int inn, int thing) {
            if (inn < 0) {
                return 0;
            }
            return state.lastThing[inn] == thing && state.lastBy[inn] != guest ? 1 : 0;
        }

        int dutyFor(int guest, int inn, int dream) {
            look(guest, inn, dream);
            return clamp(text.owesLaw.tells(values), MOST_OWED);
        }

        int eyesOf(int guest) {
            look(guest, state.lodged[guest], state.dream[guest]);
            return clamp(text.showsLaw.tells(values), HUNDRED);
        }

        /** Puts in place what the variables of the laws are. */
        private void look(int guest, int inn, int dream) {
            int thing = thingOf(dream);
            values[0] = state.night;
            values[1] = thing >= 0 ? text.tariff[thing] : 0;
            values[2] = unitsOf(dream);
            values[3] = inn >= 0 ? text.cheese[inn] : 0;
            values[4] = text.degree[guest];
            values[5] = text.honest[guest];
            values[6] = thing;
            values[7] = twiceOf(dream);
            values[8] = alike(guest, thing);
        }

        private int alike(int guest, int thing) {
            int count = 0;
            for (int other = 0; other < text.guests; other++) {
                int dream = state.dream[other];
                if (other != guest && dream != NOTHING && dream / DREAMS_OF_A_THING == thing) {
                    count++;
                }
            }
            return count;
        }

        /** What all owe now, twins weighed as one: the sum. */
        int weighAll() {
            for (int guest = 0; guest < text.guests; guest++) {
                int dream = state.dream[guest];
                owed[guest] = dream == NOTHING ? 0 : dutyFor(guest, state.lodged[guest], dream);
            }
            int sum = 0;
            for (int guest = 0; guest < text.guests; guest++) {
                int twin = text.twin[guest];
                if (twin > guest && state.dream[guest] != NOTHING && state.dream[twin] != NOTHING) {
                    owed[owed[twin] > owed[guest] ? guest : twin] = 0;
                }
                sum += owed[guest];
            }
            return sum;
        }

        /** A morning: how much all pay. */
        int customs() {
            weighAll();
            int sum = 0;
            for (int guest = 0; guest < text.guests; guest++) {
                if (state.dream[guest] != NOTHING) {
                    int pays = paysAtCustoms(guest);
                    state.coins[guest] -= pays;
                    sum += pays;
                }
            }
            state.paidAtCustoms += sum;
            Arrays.fill(state.dream, NOTHING);
            return sum;
        }

        private int paysAtCustoms(int guest) {
            if (lot(HUNDRED, DECLARING + guest) < text.honest[guest]) {
                state.declared[guest]++;
                return owed[guest];
            }
            if (lot(HUNDRED, SHOWING + guest) < eyesOf(guest)) {
                state.seen[guest]++;
                return text.fine * owed[guest];
            }
            return 0;
        }

        /** What a guest would owe over all things by weight: to be divided by all weights of the inn. */
        int meanSum(int guest, int inn) {
            int sum = 0;
            for (int thing = 0; thing < text.things; thing++) {
                int weight = text.weightOf(inn, thing);
                if (weight > 0) {
                    sum += weight * dutyFor(guest, inn, dreamWould(guest, inn, thing));
                }
            }
            return sum;
        }
    }

    /** Where a set of guests had best sleep. */
    private static final class Lodgings {
        private final int[] members = new int[MOST_SET];
        private final int[] innOf = new int[MOST_SET];
        private final int[] bestInn = new int[MOST_SET];
        private final int[] free = new int[MOST_INNS];
        private final long[] cost = new long[MOST_SET * MOST_INNS];
        private int size;
        // All weights of every inn divide it, so sums of fractions stay whole numbers over it.
        private long below;
        private long bestSum;

        boolean find(Border border, int set) {
            prepare(border, set);
            int inns = border.text.inns;
            int ways = inns == 0 ? 0 : 1;
            for (int i = 0; i < size; i++) {
                ways *= inns;
            }
            bestSum = NONE;
            for (int way = 0; way < ways; way++) {
                spread(way, inns);
                long sum = fits(inns) ? sumOf() : NONE;
                if (sum >= 0 && (bestSum < 0 || sum < bestSum)) {
                    bestSum = sum;
                    System.arraycopy(innOf, 0, bestInn, 0, MOST_SET);
                }
            }
            return bestSum >= 0;
        }

        int sum() {
            return below > 0 ? (int) (bestSum / below) : NONE;
        }

        int innOf(int i) {
            return i >= 0 && i < size ? bestInn[i] : NONE;
        }

        private void prepare(Border border, int set) {
            Text text = border.text;
            size = 0;
            for (int guest = 0; guest < text.guests; guest++) {
                if ((set >> guest & 1) == 1 && size < MOST_SET) {
                    members[size] = guest;
                    size++;
                }
            }
            below = 1;
            for (int inn = 0; inn < text.inns; inn++) {
                free[inn] = text.beds[inn] - Integer.bitCount(border.lodgersOf(inn) & ~set);
                int all = Math.max(1, text.allWeights[inn]);
                below = below / commonDivisor(below, all) * all;
            }
            for (int i = 0; i < size; i++) {
                for (int inn = 0; inn < text.inns; inn++) {
                    long share = below / Math.max(1, text.allWeights[inn]);
                    cost[i * MOST_INNS + inn] = text.price[inn] * below
                            + border.meanSum(members[i], inn) * share;
                }
            }
        }

        // The first guest's inn is the highest digit: ways come in the order that decides alike ones.
        private void spread(int way, int inns) {
            int rest = way;
            for (int i = size - 1; i >= 0 && inns > 0; i--) {
                innOf[i] = rest % inns;
                rest /= inns;
            }
        }

        private boolean fits(int inns) {
            for (int inn = 0; inn < inns; inn++) {
                int used = 0;
                for (int i = 0; i < size; i++) {
                    used += innOf[i] == inn ? 1 : 0;
                }
                if (used > 0 && used > free[inn]) {
                    return false;
                }
            }
            return true;
        }

        private long sumOf() {
            long sum = 0;
            for (int i = 0; i < size; i++) {
                sum += cost[i * MOST_INNS + innOf[i]];
            }
            return sum;
        }
    }

    /** Who should swap with whom. */
    private static final class Pairings {
        int bestSum;
        int bestCount;
        int bestFirst;

        /** Swaps are tried on the border's own dreams, and taken back. */
        void find(Border border) {
            bestSum = border.weighAll();
            bestCount = 0;
            bestFirst = NOTHING;
            pair(border, border.dreamers(), 0, NOTHING, 0);
        }

        // A pair is tried ahead of none, and the lesser partner first:
        // so ways with as many swaps come in the order that decides alike ones.
        private void pair(Border border, int unpaired, int count, int first, int guest) {
            if (guest >= border.text.guests || guest >= MOST_GUESTS) {
                keepIfBetter(border.weighAll(), count, first);
                return;
            }
            if ((unpaired >> guest & 1) == 1) {
                for (int other = guest + 1; other < border.text.guests; other++) {
                    if ((unpaired >> other & 1) == 1) {
                        border.state.change(guest, other);
                        pair(border, unpaired & ~(1 << guest | 1 << other), count + 1,
                                count == 0 ? 10 * guest + other : first, guest + 1);
                        border.state.change(guest, other);
                    }
                }
            }
            pair(border, unpaired, count, first, guest + 1);
        }

        private void keepIfBetter(int sum, int count, int first) {
            if (sum < bestSum || (sum == bestSum && count < bestCount)) {
                bestSum = sum;
                bestCount = count;
                bestFirst = first;
            }
        }
    }

    /** Sets of guests who hide their dreams, by which nobody would do the other thing. */
    private static final class Rests {
        private final int[] declaring = new int[MOST_GUESTS];
        private final int[] hiding = new int[MOST_GUESTS];
        private int dreamers;

        /** What each pays, in hundredths: declaring, and hiding alone. */
        void weigh(Border border) {
            dreamers = border.dreamers();
            border.weighAll();
            for (int guest = 0; guest < border.text.guests; guest++) {
                if ((dreamers >> guest & 1) == 1) {
                    declaring[guest] = border.owed[guest] * HUNDRED;
                    hiding[guest] = border.text.fine * border.owed[guest] * border.eyesOf(guest);
                }
            }
        }

        boolean holds(int set) {
            if ((set & ~dreamers) != 0) {
                return false;
            }
            for (int guest = 0; guest < MOST_GUESTS; guest++) {
                if ((dreamers >> guest & 1) == 1) {
                    int hidden = hiding[guest] + HUNDRED * Integer.bitCount(set & ~(1 << guest));
                    boolean hides = (set >> guest & 1) == 1;
                    if (hides ? declaring[guest] < hidden : hidden < declaring[guest]) {
                        return false;
                    }
                }
            }
            return true;
        }
    }
}
