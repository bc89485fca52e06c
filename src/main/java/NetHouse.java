import java.util.Arrays;

/** A house of nets in which marks move. The document's numbered promises say what each call answers. */
public final class NetHouse {
    public static final int BAD = -2000000001, NO = -2000000002, FULL = -2000000003, SPENT = -2000000004, NONE = -2000000005, ENDLESS = -2000000006;

    private static final int MOST_PLACES = 16, MOST_STEPS = 16, MOST_THINGS = 20, MOST_ARC = 9;
    private static final int COLOURED = 1;
    private static final int GUARDED = 1, STOPPED = 2, URGENT = 3;
    private static final int CARD = 1, SEAL = 2, KEY = 3;
    private static final int MOST_TOLD = 1000000, MOST_NUMBER = 1000000000;
    private static final int MOST_RUN = 1000, MOST_PAST = 256, MOST_ROW = 16, MOST_WAY = 8000;
    private static final int MOST_FIELD = 8000, MOST_TREE = 2000, MOST_SETS = 500;
    private static final int DRAIN = 0, TRAP = 1;

    /** More than any number of marks that can come, so that plain comparisons hold for ENDLESS too. */
    private static final int WITHOUT_END = 2147483647;

    private final Net net = new Net();
    private final Holding now = new Holding();
    private final Holding trial = new Holding();
    private final Past past = new Past();
    private final Hand hand = new Hand();
    private final Field reach = new Field();
    private final Tree growth = new Tree();
    private final Balance ofPlaces = new Balance();
    private final Balance ofSteps = new Balance();
    private final SetList told = new SetList();
    private int goings = 0;
    private int latestFault = NONE;

    public NetHouse() {
    }

    // ---- the net

    public int place(int kind) {
        if (kind < 0 || kind > COLOURED) {
            return BAD;
        }
        if (net.places >= MOST_PLACES) {
            return FULL;
        }
        net.addPlace(kind);
        netChanges();
        return net.places - 1;
    }

    public int step(int kind) {
        if (kind < 0 || kind > URGENT) {
            return BAD;
        }
        if (net.steps >= MOST_STEPS) {
            return FULL;
        }
        net.addStep(kind);
        netChanges();
        return net.steps - 1;
    }

    public int arc(int step, int place, int takes, int puts) {
        if (!net.hasBoth(step, place) || !isArc(takes) || !isArc(puts)) {
            return BAD;
        }
        net.connect(step, place, takes, puts);
        netChanges();
        return 0;
    }

    public int need(int step, int place, int n) {
        if (!net.hasBoth(step, place) || !isArc(n)) {
            return BAD;
        }
        if (net.stepKinds[step] < GUARDED) {
            return NO;
        }
        net.tellNeed(step, place, n);
        netChanges();
        return 0;
    }

    public int close(int step, int place, int closed) {
        if (!net.hasBoth(step, place) || closed < 0 || closed > 1) {
            return BAD;
        }
        if (net.stepKinds[step] < STOPPED) {
            return NO;
        }
        net.tellClosed(step, place, closed);
        netChanges();
        return 0;
    }

    public int want(int step, int place, int want, int gift) {
        if (!net.hasBoth(step, place) || !isThingKind(want) || !isThingKind(gift)) {
            return BAD;
        }
        if (!net.isColoured(place)) {
            return NO;
        }
        net.wants[crossing(step, place)] = want;
        net.gifts[crossing(step, place)] = gift;
        netChanges();
        return 0;
    }

    public int asks(int step, int place, int what) {
        if (!net.hasBoth(step, place)) {
            return BAD;
        }
        int at = crossing(step, place);
        switch (what) {
            case 0: return net.takes[at];
            case 1: return net.puts[at];
            case 2: return net.needs[at];
            case 3: return net.closed[at];
            case 4: return net.wants[at];
            case 5: return net.gifts[at];
            default: return BAD;
        }
    }

    public int isOf(int step, int kind) {
        if (!net.hasStep(step) || kind < 0 || kind > URGENT) {
            return BAD;
        }
        return net.stepKinds[step] >= kind ? 1 : 0;
    }

    // ---- what there is

    public int mark(int place, int n) {
        if (!net.hasPlace(place) || n < 0 || n > MOST_TOLD) {
            return BAD;
        }
        if (net.isColoured(place)) {
            return NO;
        }
        int had = now.many[place];
        now.many[place] = n;
        past.clear();
        return had;
    }

    public int thing(int place, int kind) {
        if (!net.hasPlace(place) || !isThingKind(kind)) {
            return BAD;
        }
        if (!net.isColoured(place)) {
            return NO;
        }
        if (now.many[place] >= MOST_THINGS) {
            return FULL;
        }
        now.append(place, kind);
        past.clear();
        return now.many[place];
    }

    public int sweep(int place) {
        if (!net.hasPlace(place)) {
            return BAD;
        }
        if (!net.isColoured(place)) {
            return NO;
        }
        int had = now.many[place];
        now.empty(place);
        past.clear();
        return had;
    }

    public int many(int place) {
        return net.hasPlace(place) ? now.many[place] : BAD;
    }

    public int kind(int place, int i) {
        if (!net.hasPlace(place)) {
            return BAD;
        }
        if (!net.isColoured(place)) {
            return NO;
        }
        return i >= 0 && i < now.many[place] ? now.kindAt(place, i) : BAD;
    }

    public int share(int place) {
        if (!net.hasPlace(place)) {
            return BAD;
        }
        long all = 0;
        for (int p = 0; p < net.places; p++) {
            all += now.many[p];
        }
        if (all == 0) {
            return NO;
        }
        return (int) (now.many[place] * 1000L / all);
    }

    // ---- going

    public int may(int step) {
        if (!net.hasStep(step)) {
            return BAD;
        }
        if (!net.allows(now, step)) {
            return 0;
        }
        return net.goes(now, step) ? 1 : 2;
    }

    public int go(int step) {
        if (!net.hasStep(step)) {
            return BAD;
        }
        if (!net.goes(now, step)) {
            return NO;
        }
        if (net.overfills(now, step)) {
            return FULL;
        }
        carryOut(step);
        return 0;
    }

    public int run(int n) {
        if (n < 1 || n > MOST_RUN) {
            return BAD;
        }
        for (int times = 0; times < n; times++) {
            int step = net.leastGoing(now);
            if (step < 0 || net.overfills(now, step)) {
                return times;
            }
            carryOut(step);
        }
        return n;
    }

    public int back() {
        return past.size == 0 ? NO : past.undo(net, now);
    }

    // ---- in hand

    public int row(int n) {
        if (n < 0 || n > MOST_ROW) {
            return BAD;
        }
        hand.rowSize = n;
        Arrays.fill(hand.row, 0);
        return n;
    }

    public int set(int i, int v) {
        if (!hand.hasNumber(i) || v < -MOST_NUMBER || v > MOST_NUMBER) {
            return BAD;
        }
        int was = hand.row[i];
        hand.row[i] = v;
        return was;
    }

    public int get(int i) {
        return hand.hasNumber(i) ? hand.row[i] : BAD;
    }

    public int copy(int a, int b, int n) {
        if (n < 0 || !hand.hasStretch(a, n) || !hand.hasStretch(b, n)) {
            return BAD;
        }
        System.arraycopy(hand.row, a, hand.row, b, n);
        return 0;
    }

    public int lay(int step) {
        if (!net.hasStep(step)) {
            return BAD;
        }
        if (hand.waySize >= MOST_WAY) {
            return FULL;
        }
        hand.layBehind(step);
        return hand.waySize;
    }

    public int lift() {
        int had = hand.waySize;
        hand.waySize = 0;
        return had;
    }

    public int walk(int i) {
        return i >= 0 && i < hand.waySize ? hand.way[i] : BAD;
    }

    public int check() {
        if (net.coloured > 0) {
            return NO;
        }
        trial.become(now);
        for (int i = 0; i < hand.waySize; i++) {
            if (!net.goes(trial, hand.way[i])) {
                return i;
            }
            net.move(trial, hand.way[i]);
        }
        return hand.waySize;
    }

    // ---- the field

    public int field(int most) {
        if (most < 1 || most > MOST_FIELD) {
            return BAD;
        }
        if (net.coloured > 0) {
            return NO;
        }
        return reach.make(net, now, most) ? reach.all.size : SPENT;
    }

    public int marking(int i, int place) {
        if (!net.hasPlace(place)) {
            return BAD;
        }
        int refusal = reach.refusal(i);
        return refusal != 0 ? refusal : reach.all.cellAt(i, place);
    }

    public int next(int i, int step) {
        if (!net.hasStep(step)) {
            return BAD;
        }
        int refusal = reach.refusal(i);
        return refusal != 0 ? refusal : reach.leadsFrom(i, step);
    }

    public int way(int i) {
        int refusal = reach.refusal(i);
        if (refusal != 0) {
            return refusal;
        }
        reach.all.retrace(i, hand);
        return hand.waySize;
    }

    public int find() {
        if (!reach.made) {
            return NO;
        }
        tryTheRow();
        int i = reach.all.indexOf(trial);
        return i < 0 ? NONE : i;
    }

    public int dead(int k) {
        if (k < 0) {
            return BAD;
        }
        return reach.made ? reach.deadOne(k) : NO;
    }

    public int stuck(int step) {
        if (!net.hasStep(step)) {
            return BAD;
        }
        return reach.made ? reach.leastWithout(step) : NO;
    }

    public int home(int i) {
        int refusal = reach.refusal(i);
        if (refusal != 0) {
            return refusal;
        }
        return reach.leastAstray(i) == NONE ? 1 : 0;
    }

    public int works(int b, int e, int most) {
        if (!net.hasPlace(b) || !net.hasPlace(e) || most < 1 || most > MOST_FIELD) {
            return BAD;
        }
        if (net.coloured > 0) {
            return NO;
        }
        trial.becomeOneAt(b);
        if (!reach.make(net, trial, most)) {
            return SPENT;
        }
        trial.becomeOneAt(e);
        int end = reach.all.indexOf(trial);
        // The beginning leads everywhere, so it is the least that misses an end which never comes.
        latestFault = end < 0 ? 0 : reach.leastAstray(end);
        if (latestFault != NONE) {
            return 1;
        }
        latestFault = reach.leastOtherWith(e, end);
        if (latestFault != NONE) {
            return 2;
        }
        latestFault = reach.leastIdleStep();
        return latestFault == NONE ? 0 : 3;
    }

    public int fault() {
        return latestFault;
    }

    // ---- the tree

    public int tree(int most) {
        if (most < 1 || most > MOST_TREE) {
            return BAD;
        }
        if (net.coloured > 0 || net.hasStepAbove(GUARDED)) {
            return NO;
        }
        return growth.make(net, now, most) ? growth.nodes.size : SPENT;
    }

    public int node(int i, int place) {
        if (!net.hasPlace(place)) {
            return BAD;
        }
        int refusal = growth.refusal(i);
        return refusal != 0 ? refusal : asTold(growth.nodes.cellAt(i, place));
    }

    public int above(int i, int what) {
        if (what < 0 || what > 2) {
            return BAD;
        }
        int refusal = growth.refusal(i);
        if (refusal != 0) {
            return refusal;
        }
        if (what == 2) {
            return growth.leaves[i];
        }
        return what == 0 ? growth.nodes.former[i] : growth.nodes.by[i];
    }

    public int cover() {
        if (!growth.made) {
            return NO;
        }
        tryTheRow();
        for (int i = 0; i < growth.nodes.size; i++) {
            if (growth.nodes.isNowhereBelow(i, trial)) {
                return i;
            }
        }
        return NONE;
    }

    public int bound(int place) {
        if (!net.hasPlace(place)) {
            return BAD;
        }
        return growth.made ? asTold(growth.nodes.mostAt(place)) : NO;
    }

    public int pump() {
        if (!growth.made) {
            return NO;
        }
        if (growth.endlessNode < 0) {
            return NONE;
        }
        growth.nodes.retrace(growth.endlessNode, hand);
        return growth.nodes.depthOf(growth.endlessBy);
    }

    // ---- weights and rounds

    public int weights() {
        return ofPlaces.solve(net, true) ? ofPlaces.size : SPENT;
    }

    public int weight(int k, int place) {
        return net.hasPlace(place) && ofPlaces.has(k) ? ofPlaces.numberAt(k, place) : BAD;
    }

    public int rounds() {
        return ofSteps.solve(net, false) ? ofSteps.size : SPENT;
    }

    public int round(int k, int step) {
        return net.hasStep(step) && ofSteps.has(k) ? ofSteps.numberAt(k, step) : BAD;
    }

    public int keeps() {
        for (int s = 0; s < net.steps; s++) {
            long sum = 0;
            for (int p = 0; p < net.places; p++) {
                sum += (long) hand.numberFor(p) * net.change(s, p);
            }
            if (sum != 0) {
                return 0;
            }
        }
        return 1;
    }

    public int turns() {
        for (int s = 0; s < net.steps; s++) {
            if (hand.numberFor(s) < 0) {
                return 0;
            }
        }
        for (int p = 0; p < net.places; p++) {
            long sum = 0;
            for (int s = 0; s < net.steps; s++) {
                sum += (long) hand.numberFor(s) * net.change(s, p);
            }
            if (sum != 0) {
                return 0;
            }
        }
        return 1;
    }

    // ---- drains and traps

    public int sets(int what, int most) {
        if (!isSetKind(what) || most < 1 || most > MOST_SETS) {
            return BAD;
        }
        told.collect(net, what, most);
        return told.size;
    }

    public int bits(int k) {
        return k >= 0 && k < told.size ? told.sets[k] : BAD;
    }

    public int isSet(int bits, int what) {
        if (!isSetKind(what) || !net.hasPlaces(bits)) {
            return BAD;
        }
        return bits != 0 && net.greatestWithin(bits, what) == bits ? 1 : 0;
    }

    public int greatest(int bits, int what) {
        if (!isSetKind(what) || !net.hasPlaces(bits)) {
            return BAD;
        }
        return net.greatestWithin(bits, what);
    }

    public int free() {
        return net.isFree() ? 1 : 0;
    }

    public int bare() {
        int drain = 0;
        for (int left = 1 << MOST_PLACES; left > 0; left--) {
            drain = leastBehind(net, DRAIN, drain, 0, net.places);
            // No trap at all is an empty set, and an empty set holds nothing; no drain is the answer, too.
            if (drain == 0 || !now.hasSomethingIn(net.greatestWithin(drain, TRAP))) {
                return drain;
            }
        }
        return 0;
    }

    public int count(int what) {
        switch (what) {
            case 0: return net.places;
            case 1: return net.steps;
            case 2: return past.size;
            case 3: return goings;
            case 4: return hand.rowSize;
            case 5: return hand.waySize;
            case 6: return reach.made ? reach.all.size : 0;
            case 7: return growth.made ? growth.nodes.size : 0;
            case 8: return ofPlaces.size;
            case 9: return ofSteps.size;
            case 10: return told.size;
            default: return BAD;
        }
    }

    // ---- what several calls share

    private void netChanges() {
        reach.made = false;
        growth.made = false;
        ofPlaces.size = 0;
        ofSteps.size = 0;
        told.size = 0;
        past.clear();
    }

    private void carryOut(int step) {
        past.note(net, now, step);
        net.move(now, step);
        goings++;
    }

    /** THE ROW AS MARKS, to be compared with others. */
    private void tryTheRow() {
        for (int p = 0; p < net.places; p++) {
            trial.many[p] = hand.numberFor(p);
        }
    }

    private static boolean isArc(int n) {
        return n >= 0 && n <= MOST_ARC;
    }

    private static boolean isThingKind(int kind) {
        return kind >= 0 && kind <= KEY;
    }

    private static boolean isSetKind(int what) {
        return what == DRAIN || what == TRAP;
    }

    private static int asTold(int marks) {
        return marks == WITHOUT_END ? ENDLESS : marks;
    }

    private static int crossing(int step, int place) {
        return step * MOST_PLACES + place;
    }

    /**
     * The next least drain (trap) by its bits behind one that is known; 0: there is none. Decides from the highest
     * place down, leaving it out first, and what holds a drain already cannot grow into a least one.
     */
    private static int leastBehind(Net net, int what, int known, int chosen, int undecided) {
        if (undecided < 0 || undecided > MOST_PLACES) {
            return 0;
        }
        int widest = chosen | ((1 << undecided) - 1);
        if (widest <= known) {
            return 0;
        }
        int greatest = net.greatestWithin(widest, what);
        if (greatest == 0 || (chosen & ~greatest) != 0) {
            return 0;
        }
        if (net.greatestWithin(chosen, what) != 0) {
            return chosen > known && net.isLeast(chosen, what) ? chosen : 0;
        }
        int without = leastBehind(net, what, known, chosen, undecided - 1);
        if (without != 0 || undecided == 0) {
            return without;
        }
        return leastBehind(net, what, known, chosen | (1 << (undecided - 1)), undecided - 1);
    }

    /** Places and steps, and what each step asks of each place. */
    private static final class Net {
        final int[] placeKinds = new int[MOST_PLACES];
        final int[] stepKinds = new int[MOST_STEPS];
        final int[] takes = new int[MOST_STEPS * MOST_PLACES];
        final int[] puts = new int[MOST_STEPS * MOST_PLACES];
        final int[] needs = new int[MOST_STEPS * MOST_PLACES];
        final int[] closed = new int[MOST_STEPS * MOST_PLACES];
        final int[] wants = new int[MOST_STEPS * MOST_PLACES];
        final int[] gifts = new int[MOST_STEPS * MOST_PLACES];
        // Sets of places, as bits, so that what a step leaves alone costs little.
        final int[] takesFrom = new int[MOST_STEPS];
        final int[] putsInto = new int[MOST_STEPS];
        final int[] heeds = new int[MOST_STEPS];
        int places = 0;
        int steps = 0;
        int coloured = 0;

        Net() {
        }

        void addPlace(int kind) {
            placeKinds[places] = kind;
            places++;
            coloured += kind == COLOURED ? 1 : 0;
        }

        void addStep(int kind) {
            stepKinds[steps] = kind;
            steps++;
        }

        void connect(int step, int place, int takesNow, int putsNow) {
            takes[crossing(step, place)] = takesNow;
            puts[crossing(step, place)] = putsNow;
            takesFrom[step] = withBit(takesFrom[step], place, takesNow > 0);
            putsInto[step] = withBit(putsInto[step], place, putsNow > 0);
            heedIfAsked(step, place);
        }

        void tellNeed(int step, int place, int n) {
            needs[crossing(step, place)] = n;
            heedIfAsked(step, place);
        }

        void tellClosed(int step, int place, int closedNow) {
            closed[crossing(step, place)] = closedNow;
            heedIfAsked(step, place);
        }

        private void heedIfAsked(int step, int place) {
            int at = crossing(step, place);
            heeds[step] = withBit(heeds[step], place, takes[at] > 0 || needs[at] > 0 || closed[at] == 1);
        }

        static int withBit(int set, int place, boolean in) {
            return in ? set | (1 << place) : set & ~(1 << place);
        }

        boolean hasPlace(int place) {
            return place >= 0 && place < places;
        }

        boolean hasStep(int step) {
            return step >= 0 && step < steps;
        }

        boolean hasBoth(int step, int place) {
            return hasStep(step) && hasPlace(place);
        }

        boolean hasPlaces(int set) {
            return set >= 0 && set < (1 << places);
        }

        boolean isColoured(int place) {
            return placeKinds[place] == COLOURED;
        }

        boolean hasStepAbove(int kind) {
            for (int s = 0; s < steps; s++) {
                if (stepKinds[s] > kind) {
                    return true;
                }
            }
            return false;
        }

        int change(int step, int place) {
            return puts[crossing(step, place)] - takes[crossing(step, place)];
        }

        /** Whether a step MAY go. */
        boolean allows(Holding held, int step) {
            int heeded = heeds[step];
            for (int p = 0; p < places && heeded >> p != 0; p++) {
                if ((heeded >> p & 1) == 0) {
                    continue;
                }
                int at = crossing(step, p);
                int n = held.many[p];
                if (n < takes[at] || n < needs[at] || (n > 0 && closed[at] == 1)) {
                    return false;
                }
                if (takes[at] > 0 && isColoured(p) && held.manyOf(p, wants[at]) < takes[at]) {
                    return false;
                }
            }
            return true;
        }

        boolean urges(Holding held) {
            for (int s = 0; s < steps; s++) {
                if (stepKinds[s] == URGENT && allows(held, s)) {
                    return true;
                }
            }
            return false;
        }

        boolean goes(Holding held, int step) {
            return allows(held, step) && (stepKinds[step] == URGENT || !urges(held));
        }

        /** As goes(), for a caller that asks for many steps and knows whether an urgent one MAY. */
        boolean goesWhere(boolean urged, Holding held, int step) {
            return (!urged || stepKinds[step] == URGENT) && allows(held, step);
        }

        int leastGoing(Holding held) {
            boolean urged = urges(held);
            for (int s = 0; s < steps; s++) {
                if (goesWhere(urged, held, s)) {
                    return s;
                }
            }
            return -1;
        }

        boolean overfills(Holding held, int step) {
            for (int p = 0; p < places; p++) {
                int limit = isColoured(p) ? MOST_THINGS : MOST_NUMBER;
                if (held.many[p] + change(step, p) > limit) {
                    return true;
                }
            }
            return false;
        }

        void move(Holding held, int step) {
            int touched = takesFrom[step] | putsInto[step];
            for (int p = 0; p < places && touched >> p != 0; p++) {
                if ((touched >> p & 1) == 1) {
                    moveAt(held, p, crossing(step, p));
                }
            }
        }

        private void moveAt(Holding held, int place, int at) {
            if (isColoured(place)) {
                held.takeFirst(place, takes[at], wants[at]);
                held.appendMany(place, puts[at], gifts[at]);
            } else if (held.many[place] != WITHOUT_END) {
                held.many[place] += puts[at] - takes[at];
            }
        }

        /** For each step the places by which it comes into question for a drain (a trap). */
        private int[] entries(int what) {
            return what == DRAIN ? putsInto : takesFrom;
        }

        /** For each step the places of which it must have one in the drain (the trap) then. */
        private int[] exits(int what) {
            return what == DRAIN ? takesFrom : putsInto;
        }

        int greatestWithin(int set, int what) {
            int[] in = entries(what);
            int[] out = exits(what);
            int left = set;
            // Each turn but the last takes a place away at least, so that many turns are enough.
            for (int turn = 0; turn <= places; turn++) {
                int before = left;
                for (int s = 0; s < steps; s++) {
                    if ((in[s] & left) != 0 && (out[s] & left) == 0) {
                        left &= ~in[s];
                    }
                }
                if (left == before) {
                    return left;
                }
            }
            return left;
        }

        /** Whether a set is a drain (a trap), and has no other one within. */
        boolean isLeast(int set, int what) {
            if (set == 0 || greatestWithin(set, what) != set) {
                return false;
            }
            for (int p = 0; p < places; p++) {
                if ((set >> p & 1) == 1 && greatestWithin(set & ~(1 << p), what) != 0) {
                    return false;
                }
            }
            return true;
        }

        boolean isFree() {
            if (coloured > 0 || hasStepAbove(0)) {
                return false;
            }
            for (int at = 0; at < steps * MOST_PLACES; at++) {
                if (takes[at] > 1 || puts[at] > 1) {
                    return false;
                }
            }
            for (int p = 0; p < places; p++) {
                if (!isFreeAt(p)) {
                    return false;
                }
            }
            return true;
        }

        private boolean isFreeAt(int place) {
            int takers = 0;
            int fromElsewhere = 0;
            for (int s = 0; s < steps; s++) {
                if ((takesFrom[s] & (1 << place)) != 0) {
                    takers++;
                    fromElsewhere |= takesFrom[s] & ~(1 << place);
                }
            }
            return takers == 1 || (takers > 1 && fromElsewhere == 0);
        }
    }

    /** How many each place has; of a coloured one the things too, two bits each, the first one lowest. */
    private static final class Holding {
        final int[] many = new int[MOST_PLACES];
        final long[] things = new long[MOST_PLACES];

        Holding() {
        }

        /** Only for nets without coloured places, as all that is tried out is. */
        void become(Holding other) {
            System.arraycopy(other.many, 0, many, 0, MOST_PLACES);
        }

        /** Only for nets without coloured places. */
        void becomeOneAt(int place) {
            Arrays.fill(many, 0);
            many[place] = 1;
        }

        int kindAt(int place, int i) {
            return kindIn(things[place], i);
        }

        static int kindIn(long packed, int i) {
            return (int) (packed >>> (2 * i)) & 3;
        }

        static boolean isOfKind(int kind, int want) {
            return want == 0 || kind == want || (want == CARD && kind == SEAL);
        }

        int manyOf(int place, int want) {
            int found = 0;
            for (int i = 0; i < many[place]; i++) {
                found += isOfKind(kindIn(things[place], i), want) ? 1 : 0;
            }
            return found;
        }

        void empty(int place) {
            many[place] = 0;
            things[place] = 0;
        }

        void append(int place, int kind) {
            things[place] |= (long) kind << (2 * many[place]);
            many[place]++;
        }

        void appendMany(int place, int n, int kind) {
            for (int i = 0; i < n; i++) {
                append(place, kind);
            }
        }

        void takeFirst(int place, int n, int want) {
            int had = many[place];
            long before = things[place];
            int left = n;
            empty(place);
            for (int i = 0; i < had; i++) {
                int kind = kindIn(before, i);
                if (left > 0 && isOfKind(kind, want)) {
                    left--;
                } else {
                    append(place, kind);
                }
            }
        }

        boolean hasSomethingIn(int set) {
            for (int p = 0; p < MOST_PLACES; p++) {
                if ((set & (1 << p)) != 0 && many[p] > 0) {
                    return true;
                }
            }
            return false;
        }
    }

    /** The latest goings, in a ring: the oldest one gives way. */
    private static final class Past {
        final int[] steps = new int[MOST_PAST];
        final long[] things = new long[MOST_PAST * MOST_PLACES];
        int size = 0;
        int end = 0;

        Past() {
        }

        void clear() {
            size = 0;
        }

        void note(Net net, Holding before, int step) {
            if (net.coloured > 0) {
                // Marks can be reckoned back, but not which things went, nor from where.
                System.arraycopy(before.things, 0, things, end * MOST_PLACES, MOST_PLACES);
            }
            steps[end] = step;
            end = (end + 1) % MOST_PAST;
            size = Math.min(size + 1, MOST_PAST);
        }

        int undo(Net net, Holding held) {
            end = (end + MOST_PAST - 1) % MOST_PAST;
            size--;
            int step = steps[end];
            for (int p = 0; p < net.places; p++) {
                held.many[p] -= net.change(step, p);
            }
            if (net.coloured > 0) {
                System.arraycopy(things, end * MOST_PLACES, held.things, 0, MOST_PLACES);
            }
            return step;
        }
    }

    /** THE ROW and THE WAY. */
    private static final class Hand {
        final int[] row = new int[MOST_ROW];
        final int[] way = new int[MOST_WAY];
        int rowSize = 0;
        int waySize = 0;

        Hand() {
        }

        boolean hasNumber(int i) {
            return i >= 0 && i < rowSize;
        }

        boolean hasStretch(int from, int n) {
            return from >= 0 && from <= rowSize && n <= rowSize - from;
        }

        int numberFor(int i) {
            return hasNumber(i) ? row[i] : 0;
        }

        void layBehind(int step) {
            way[waySize] = step;
            waySize++;
        }
    }

    /** Markings by their numbers, each with the one and the step that it came by, and a way to look one up. */
    private static final class Markings {
        private static final int BUCKETS = 1024, TO_BUCKET = 22;

        final int[] cells;
        final int[] former;
        final int[] by;
        final int[] links;
        final int[] heads = new int[BUCKETS];
        int width = 0;
        int size = 0;

        /** Room for so many of the widest ones: no call has to make more. */
        Markings(int most) {
            int room = Math.max(1, Math.min(most, MOST_FIELD));
            cells = new int[room * MOST_PLACES];
            former = new int[room];
            by = new int[room];
            links = new int[room];
        }

        void begin(int places) {
            width = places;
            size = 0;
            Arrays.fill(heads, -1);
        }

        int bucketOf(Holding held) {
            int mix = 0;
            for (int p = 0; p < width; p++) {
                mix = (mix ^ held.many[p]) * 0x9E3779B1;
                mix ^= mix >>> 15;
            }
            return (mix * 0x9E3779B1) >>> TO_BUCKET;
        }

        /** Below 0: it is not there. */
        int indexOf(Holding held) {
            int i = heads[bucketOf(held)];
            for (int left = size; left > 0 && i >= 0; left--) {
                if (isSame(i, held)) {
                    return i;
                }
                i = links[i];
            }
            return -1;
        }

        boolean isSame(int i, Holding held) {
            for (int p = 0; p < width; p++) {
                if (cells[i * width + p] != held.many[p]) {
                    return false;
                }
            }
            return true;
        }

        void add(Holding held, int from, int step) {
            System.arraycopy(held.many, 0, cells, size * width, width);
            former[size] = from;
            by[size] = step;
            int bucket = bucketOf(held);
            links[size] = heads[bucket];
            heads[bucket] = size;
            size++;
        }

        void load(int i, Holding held) {
            System.arraycopy(cells, i * width, held.many, 0, width);
        }

        int cellAt(int i, int place) {
            return cells[i * width + place];
        }

        boolean isNowhereBelow(int i, Holding held) {
            for (int p = 0; p < width; p++) {
                if (cellAt(i, p) < held.many[p]) {
                    return false;
                }
            }
            return true;
        }

        boolean isNowhereAbove(int i, Holding held) {
            for (int p = 0; p < width; p++) {
                if (cellAt(i, p) > held.many[p]) {
                    return false;
                }
            }
            return true;
        }

        int mostAt(int place) {
            int most = 0;
            for (int i = 0; i < size; i++) {
                most = Math.max(most, cellAt(i, place));
            }
            return most;
        }

        int depthOf(int i) {
            int depth = 0;
            for (int at = i; at > 0 && depth < size; at = former[at]) {
                depth++;
            }
            return depth;
        }

        /** THE WAY becomes the steps that led to number i. */
        void retrace(int i, Hand hand) {
            int depth = depthOf(i);
            hand.waySize = depth;
            int at = i;
            for (int k = depth - 1; k >= 0; k--) {
                hand.way[k] = by[at];
                at = former[at];
            }
        }
    }

    /** THE FIELD. What leads where is asked backwards, over lists of the goings that come in at a marking. */
    private static final class Field {
        final Markings all = new Markings(MOST_FIELD);
        final Holding from = new Holding();
        final Holding to = new Holding();
        final int[] nexts = new int[MOST_FIELD * MOST_STEPS];
        final int[] firstIn = new int[MOST_FIELD];
        final int[] otherIn = new int[MOST_FIELD * MOST_STEPS];
        final int[] queue = new int[MOST_FIELD];
        final int[] leads = new int[MOST_FIELD];
        boolean made = false;
        boolean turned = false;
        int steps = 0;

        Field() {
        }

        /** 0: there is a field, and a marking i in it. */
        int refusal(int i) {
            if (!made) {
                return NO;
            }
            return i >= 0 && i < all.size ? 0 : BAD;
        }

        /** Whether there are no more than most. */
        boolean make(Net net, Holding start, int most) {
            made = false;
            turned = false;
            steps = net.steps;
            all.begin(net.places);
            all.add(start, NONE, NONE);
            for (int i = 0; i < all.size && i < most; i++) {
                if (!follow(net, i, most)) {
                    return false;
                }
            }
            made = true;
            return true;
        }

        private boolean follow(Net net, int i, int most) {
            all.load(i, from);
            boolean urged = net.urges(from);
            for (int s = 0; s < steps; s++) {
                int next = NONE;
                if (net.goesWhere(urged, from, s)) {
                    to.become(from);
                    net.move(to, s);
                    next = all.indexOf(to);
                    if (next < 0) {
                        if (all.size >= most) {
                            return false;
                        }
                        next = all.size;
                        all.add(to, i, s);
                    }
                }
                nexts[i * steps + s] = next;
            }
            return true;
        }

        int leadsFrom(int i, int step) {
            return nexts[i * steps + step];
        }

        int deadOne(int k) {
            int found = 0;
            for (int i = 0; i < all.size; i++) {
                if (isDeadAt(i)) {
                    if (found == k) {
                        return i;
                    }
                    found++;
                }
            }
            return NONE;
        }

        private boolean isDeadAt(int i) {
            for (int s = 0; s < steps; s++) {
                if (leadsFrom(i, s) >= 0) {
                    return false;
                }
            }
            return true;
        }

        /** The least marking that leads to none at which a step goes. */
        int leastWithout(int step) {
            turnRound();
            int ends = 0;
            for (int i = 0; i < all.size; i++) {
                leads[i] = leadsFrom(i, step) >= 0 ? 1 : 0;
                if (leads[i] == 1) {
                    queue[ends] = i;
                    ends++;
                }
            }
            return leastNotLeading(ends);
        }

        /** The least marking that does not lead to one. */
        int leastAstray(int end) {
            turnRound();
            for (int i = 0; i < all.size; i++) {
                leads[i] = 0;
            }
            leads[end] = 1;
            queue[0] = end;
            return leastNotLeading(1);
        }

        private void turnRound() {
            if (turned) {
                return;
            }
            for (int i = 0; i < all.size; i++) {
                firstIn[i] = -1;
            }
            for (int e = 0; e < all.size * steps; e++) {
                if (nexts[e] >= 0) {
                    otherIn[e] = firstIn[nexts[e]];
                    firstIn[nexts[e]] = e;
                }
            }
            turned = true;
        }

        /** The queue holds the first ones that lead there; each marking comes into it once. */
        private int leastNotLeading(int ends) {
            int queued = ends;
            for (int done = 0; done < queued && done < all.size; done++) {
                queued = queueThoseBefore(queue[done], queued);
            }
            for (int i = 0; i < all.size; i++) {
                if (leads[i] == 0) {
                    return i;
                }
            }
            return NONE;
        }

        private int queueThoseBefore(int marking, int queued) {
            int behind = queued;
            int e = firstIn[marking];
            for (int left = all.size * steps; left > 0 && e >= 0; left--) {
                int before = steps > 0 ? e / steps : 0;
                if (leads[before] == 0) {
                    leads[before] = 1;
                    queue[behind] = before;
                    behind++;
                }
                e = otherIn[e];
            }
            return behind;
        }

        int leastOtherWith(int place, int end) {
            for (int i = 0; i < all.size; i++) {
                if (i != end && all.cellAt(i, place) > 0) {
                    return i;
                }
            }
            return NONE;
        }

        int leastIdleStep() {
            for (int s = 0; s < steps; s++) {
                if (goesNowhere(s)) {
                    return s;
                }
            }
            return NONE;
        }

        private boolean goesNowhere(int step) {
            for (int i = 0; i < all.size; i++) {
                if (leadsFrom(i, step) >= 0) {
                    return false;
                }
            }
            return true;
        }
    }

    /** THE TREE. */
    private static final class Tree {
        final Markings nodes = new Markings(MOST_TREE);
        final Holding child = new Holding();
        final int[] leaves = new int[MOST_TREE];
        boolean made = false;
        int endlessNode = -1;
        int endlessBy = -1;

        Tree() {
        }

        /** 0: there is a tree, and a node i in it. */
        int refusal(int i) {
            if (!made) {
                return NO;
            }
            return i >= 0 && i < nodes.size ? 0 : BAD;
        }

        /** Whether there are no more than most. */
        boolean make(Net net, Holding start, int most) {
            made = false;
            endlessNode = -1;
            endlessBy = -1;
            nodes.begin(net.places);
            child.become(start);
            addChild(NONE, NONE);
            for (int i = 0; i < nodes.size && i < most; i++) {
                if (leaves[i] == 0 && !branch(net, i, most)) {
                    return false;
                }
            }
            made = true;
            return true;
        }

        private boolean branch(Net net, int i, int most) {
            for (int s = 0; s < net.steps; s++) {
                nodes.load(i, child);
                if (net.allows(child, s)) {
                    if (nodes.size >= most) {
                        return false;
                    }
                    net.move(child, s);
                    int nearest = stretchAlong(i);
                    if (nearest >= 0 && endlessNode < 0) {
                        endlessNode = nodes.size;
                        endlessBy = nearest;
                    }
                    addChild(i, s);
                }
            }
            return true;
        }

        private void addChild(int above, int step) {
            leaves[nodes.size] = nodes.indexOf(child) >= 0 ? 1 : 0;
            nodes.add(child, above, step);
        }

        /** The nearest node upwards by which a place of the child became endless; below 0: none. */
        private int stretchAlong(int above) {
            int nearest = -1;
            int at = above;
            for (int left = nodes.size; left > 0 && at >= 0; left--) {
                if (nodes.isNowhereAbove(at, child) && stretch(at) && nearest < 0) {
                    nearest = at;
                }
                at = nodes.former[at];
            }
            return nearest;
        }

        private boolean stretch(int above) {
            boolean some = false;
            for (int p = 0; p < nodes.width; p++) {
                if (child.many[p] != WITHOUT_END && nodes.cellAt(above, p) < child.many[p]) {
                    child.many[p] = WITHOUT_END;
                    some = true;
                }
            }
            return some;
        }
    }

    /** WEIGHTS or ROUNDS, and the rows that they come of. */
    private static final class Balance {
        private static final int SIDE = 16, WIDE = 32;

        final int[] out = new int[SIDE];
        final long[] cells = new long[SIDE * WIDE];
        final int[] found = new int[SIDE * SIDE];
        int rows = 0;
        int size = 0;

        Balance() {
        }

        boolean has(int k) {
            return k >= 0 && k < size;
        }

        int numberAt(int k, int i) {
            return found[k * SIDE + i];
        }

        /** Whether no number grew too great. */
        boolean solve(Net net, boolean rowsArePlaces) {
            size = 0;
            rows = rowsArePlaces ? net.places : net.steps;
            int columns = rowsArePlaces ? net.steps : net.places;
            Arrays.fill(out, 0);
            Arrays.fill(cells, 0L);
            for (int r = 0; r < rows; r++) {
                for (int c = 0; c < columns; c++) {
                    cells[r * WIDE + c] = rowsArePlaces ? net.change(c, r) : net.change(r, c);
                }
                cells[r * WIDE + SIDE + r] = 1;
            }
            for (int c = 0; c < columns; c++) {
                if (!clearColumn(c)) {
                    return false;
                }
            }
            keepRest();
            return true;
        }

        private boolean clearColumn(int column) {
            int taken = firstWith(column);
            if (taken < 0) {
                return true;
            }
            out[taken] = 1;
            for (int r = 0; r < rows; r++) {
                if (out[r] == 0 && cells[r * WIDE + column] != 0 && !combine(r, taken, column)) {
                    return false;
                }
            }
            return true;
        }

        private int firstWith(int column) {
            for (int r = 0; r < rows; r++) {
                if (out[r] == 0 && cells[r * WIDE + column] != 0) {
                    return r;
                }
            }
            return -1;
        }

        /** No number is beyond 10^9 before, so that a long holds what comes between. */
        private boolean combine(int row, int taken, int column) {
            int at = row * WIDE;
            int other = taken * WIDE;
            long a = cells[other + column];
            long b = cells[at + column];
            long divisor = 0;
            for (int c = 0; c < WIDE; c++) {
                cells[at + c] = a * cells[at + c] - b * cells[other + c];
                divisor = commonDivisor(divisor, Math.abs(cells[at + c]));
            }
            for (int c = 0; c < WIDE; c++) {
                if (divisor > 1) {
                    cells[at + c] /= divisor;
                }
                if (Math.abs(cells[at + c]) > MOST_NUMBER) {
                    return false;
                }
            }
            return true;
        }

        private static long commonDivisor(long first, long second) {
            long a = first;
            long b = second;
            // Two longs are done within some ninety turns.
            for (int turn = 0; turn < 200 && b != 0; turn++) {
                long rest = a % b;
                a = b;
                b = rest;
            }
            return a;
        }

        private void keepRest() {
            for (int r = 0; r < rows; r++) {
                if (out[r] == 0) {
                    int sign = signOf(r);
                    for (int c = 0; c < rows; c++) {
                        found[size * SIDE + c] = sign * (int) cells[r * WIDE + SIDE + c];
                    }
                    size++;
                }
            }
        }

        private int signOf(int row) {
            for (int c = 0; c < rows; c++) {
                long number = cells[row * WIDE + SIDE + c];
                if (number != 0) {
                    return number < 0 ? -1 : 1;
                }
            }
            return 1;
        }
    }

    /** The SETS. */
    private static final class SetList {
        final int[] sets = new int[MOST_SETS];
        int size = 0;

        SetList() {
        }

        void collect(Net net, int what, int most) {
            size = 0;
            int latest = 0;
            for (int k = 0; k < most && k < MOST_SETS; k++) {
                latest = leastBehind(net, what, latest, 0, net.places);
                if (latest == 0) {
                    return;
                }
                sets[k] = latest;
                size = k + 1;
            }
        }
    }
}
