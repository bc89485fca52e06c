import java.math.BigInteger;
import java.util.ArrayDeque;
import java.util.ArrayList;
import java.util.Arrays;
import java.util.Collections;
import java.util.Deque;
import java.util.List;
import java.util.TreeSet;

/** The document once more, word by word and without any thought of speed: what RunsTest compares with. */
public final class PlainHouse {
    static final int BAD = Due.BAD, NO = Due.NO, FULL = Due.FULL, SPENT = Due.SPENT, NONE = Due.NONE, ENDLESS = Due.ENDLESS;

    private static final class Place {
        boolean coloured;
        long marks = 0;
        List<Integer> things = new ArrayList<>();

        Place copy() {
            Place other = new Place();
            other.coloured = coloured;
            other.marks = marks;
            other.things = new ArrayList<>(things);
            return other;
        }

        long howMany() {
            return coloured ? things.size() : marks;
        }
    }

    private static final class Step {
        int kind;
        int[][] asks = new int[16][6];
    }

    private static final class Going {
        int step;
        List<Place> before;
    }

    /** null among the marks: without end. */
    private static final class Node {
        List<Long> marks;
        int above = NONE;
        int by = NONE;
        int nearest = NONE;
        boolean leaf = false;
    }

    private List<Place> places = new ArrayList<>();
    private final List<Step> steps = new ArrayList<>();
    private final Deque<Going> past = new ArrayDeque<>();
    private int goings = 0;
    private int[] row = new int[0];
    private List<Integer> way = new ArrayList<>();
    private List<Node> field = null;
    private List<Node> tree = null;
    private List<BigInteger[]> weights = null;
    private List<BigInteger[]> rounds = null;
    private List<Integer> sets = null;
    private int fault = NONE;

    private boolean noPlace(int p) {
        return p < 0 || p >= places.size();
    }

    private boolean noStep(int s) {
        return s < 0 || s >= steps.size();
    }

    private static boolean outside(int n, int low, int high) {
        return n < low || n > high;
    }

    private int changed(int answer) {
        field = null;
        tree = null;
        weights = null;
        rounds = null;
        sets = null;
        past.clear();
        return answer;
    }

    private boolean anyColoured() {
        return places.stream().anyMatch(p -> p.coloured);
    }

    // ---- the net

    public int place(int kind) {
        if (outside(kind, 0, 1)) {
            return BAD;
        }
        if (places.size() == 16) {
            return FULL;
        }
        Place p = new Place();
        p.coloured = kind == 1;
        places.add(p);
        return changed(places.size() - 1);
    }

    public int step(int kind) {
        if (outside(kind, 0, 3)) {
            return BAD;
        }
        if (steps.size() == 16) {
            return FULL;
        }
        Step s = new Step();
        s.kind = kind;
        steps.add(s);
        return changed(steps.size() - 1);
    }

    public int arc(int step, int place, int takes, int puts) {
        if (noStep(step) || noPlace(place) || outside(takes, 0, 9) || outside(puts, 0, 9)) {
            return BAD;
        }
        steps.get(step).asks[place][0] = takes;
        steps.get(step).asks[place][1] = puts;
        return changed(0);
    }

    public int need(int step, int place, int n) {
        if (noStep(step) || noPlace(place) || outside(n, 0, 9)) {
            return BAD;
        }
        if (steps.get(step).kind == 0) {
            return NO;
        }
        steps.get(step).asks[place][2] = n;
        return changed(0);
    }

    public int close(int step, int place, int closed) {
        if (noStep(step) || noPlace(place) || outside(closed, 0, 1)) {
            return BAD;
        }
        if (steps.get(step).kind <= 1) {
            return NO;
        }
        steps.get(step).asks[place][3] = closed;
        return changed(0);
    }

    public int want(int step, int place, int want, int gift) {
        if (noStep(step) || noPlace(place) || outside(want, 0, 3) || outside(gift, 0, 3)) {
            return BAD;
        }
        if (!places.get(place).coloured) {
            return NO;
        }
        steps.get(step).asks[place][4] = want;
        steps.get(step).asks[place][5] = gift;
        return changed(0);
    }

    public int asks(int step, int place, int what) {
        return noStep(step) || noPlace(place) || outside(what, 0, 5) ? BAD : steps.get(step).asks[place][what];
    }

    public int isOf(int step, int kind) {
        return noStep(step) || outside(kind, 0, 3) ? BAD : steps.get(step).kind >= kind ? 1 : 0;
    }

    // ---- what there is

    public int mark(int place, int n) {
        if (noPlace(place) || outside(n, 0, 1000000)) {
            return BAD;
        }
        Place p = places.get(place);
        if (p.coloured) {
            return NO;
        }
        int had = (int) p.marks;
        p.marks = n;
        past.clear();
        return had;
    }

    public int thing(int place, int kind) {
        if (noPlace(place) || outside(kind, 0, 3)) {
            return BAD;
        }
        Place p = places.get(place);
        if (!p.coloured) {
            return NO;
        }
        if (p.things.size() == 20) {
            return FULL;
        }
        p.things.add(kind);
        past.clear();
        return p.things.size();
    }

    public int sweep(int place) {
        if (noPlace(place)) {
            return BAD;
        }
        Place p = places.get(place);
        if (!p.coloured) {
            return NO;
        }
        int had = p.things.size();
        p.things.clear();
        past.clear();
        return had;
    }

    public int many(int place) {
        return noPlace(place) ? BAD : (int) places.get(place).howMany();
    }

    public int kind(int place, int i) {
        if (noPlace(place)) {
            return BAD;
        }
        Place p = places.get(place);
        if (!p.coloured) {
            return NO;
        }
        return outside(i, 0, p.things.size() - 1) ? BAD : p.things.get(i);
    }

    public int share(int place) {
        if (noPlace(place)) {
            return BAD;
        }
        long all = places.stream().mapToLong(Place::howMany).sum();
        return all == 0 ? NO : (int) (1000 * places.get(place).howMany() / all);
    }

    // ---- going

    private static boolean thingIsOf(int kind, int want) {
        return switch (want) {
            case 0 -> true;
            case 1 -> kind == 1 || kind == 2;
            default -> kind == want;
        };
    }

    private boolean mayIn(List<Place> held, int step) {
        for (int p = 0; p < held.size(); p++) {
            int[] asks = steps.get(step).asks[p];
            Place place = held.get(p);
            long fit = place.things.stream().filter(k -> thingIsOf(k, asks[4])).count();
            if (place.howMany() < asks[0] || place.howMany() < asks[2]
                    || asks[3] == 1 && place.howMany() != 0 || place.coloured && fit < asks[0]) {
                return false;
            }
        }
        return true;
    }

    private boolean goesIn(List<Place> held, int step) {
        if (!mayIn(held, step)) {
            return false;
        }
        boolean urgentMay = false;
        for (int s = 0; s < steps.size(); s++) {
            urgentMay |= steps.get(s).kind == 3 && mayIn(held, s);
        }
        return steps.get(step).kind == 3 || !urgentMay;
    }

    private List<Place> behind(List<Place> held, int step) {
        List<Place> after = new ArrayList<>();
        for (int p = 0; p < held.size(); p++) {
            int[] asks = steps.get(step).asks[p];
            Place place = held.get(p).copy();
            if (place.coloured) {
                for (int n = 0; n < asks[0]; n++) {
                    int i = 0;
                    while (!thingIsOf(place.things.get(i), asks[4])) {
                        i++;
                    }
                    place.things.remove(i);
                }
                place.things.addAll(Collections.nCopies(asks[1], asks[5]));
            } else {
                place.marks += asks[1] - asks[0];
            }
            after.add(place);
        }
        return after;
    }

    public int may(int step) {
        return noStep(step) ? BAD : !mayIn(places, step) ? 0 : goesIn(places, step) ? 1 : 2;
    }

    public int go(int step) {
        if (noStep(step)) {
            return BAD;
        }
        if (!goesIn(places, step)) {
            return NO;
        }
        List<Place> after = behind(places, step);
        if (after.stream().anyMatch(p -> p.howMany() > (p.coloured ? 20 : 1000000000))) {
            return FULL;
        }
        Going going = new Going();
        going.step = step;
        going.before = places;
        past.addLast(going);
        if (past.size() > 256) {
            past.removeFirst();
        }
        places = after;
        goings++;
        return 0;
    }

    public int run(int n) {
        if (outside(n, 1, 1000)) {
            return BAD;
        }
        for (int times = 0; times < n; times++) {
            int step = 0;
            while (step < steps.size() && !goesIn(places, step)) {
                step++;
            }
            if (step == steps.size() || go(step) != 0) {
                return times;
            }
        }
        return n;
    }

    public int back() {
        if (past.isEmpty()) {
            return NO;
        }
        Going going = past.removeLast();
        places = going.before;
        return going.step;
    }

    // ---- in hand

    public int row(int n) {
        if (outside(n, 0, 16)) {
            return BAD;
        }
        row = new int[n];
        return n;
    }

    public int set(int i, int v) {
        if (outside(i, 0, row.length - 1) || outside(v, -1000000000, 1000000000)) {
            return BAD;
        }
        int was = row[i];
        row[i] = v;
        return was;
    }

    public int get(int i) {
        return outside(i, 0, row.length - 1) ? BAD : row[i];
    }

    public int copy(int a, int b, int n) {
        if (n < 0 || outside(a, 0, row.length) || outside(b, 0, row.length)
                || (long) a + n > row.length || (long) b + n > row.length) {
            return BAD;
        }
        int[] old = row.clone();
        for (int i = 0; i < n; i++) {
            row[b + i] = old[a + i];
        }
        return 0;
    }

    private long rowFor(int i) {
        return i < row.length ? row[i] : 0;
    }

    public int lay(int step) {
        if (noStep(step)) {
            return BAD;
        }
        if (way.size() == 8000) {
            return FULL;
        }
        way.add(step);
        return way.size();
    }

    public int lift() {
        int had = way.size();
        way = new ArrayList<>();
        return had;
    }

    public int walk(int i) {
        return outside(i, 0, way.size() - 1) ? BAD : way.get(i);
    }

    public int check() {
        if (anyColoured()) {
            return NO;
        }
        List<Place> held = places;
        for (int i = 0; i < way.size(); i++) {
            if (!goesIn(held, way.get(i))) {
                return i;
            }
            held = behind(held, way.get(i));
        }
        return way.size();
    }

    // ---- the field

    private static List<Place> asPlaces(List<Long> marks) {
        List<Place> held = new ArrayList<>();
        for (long n : marks) {
            Place p = new Place();
            p.marks = n;
            held.add(p);
        }
        return held;
    }

    private static List<Long> asMarks(List<Place> held) {
        List<Long> marks = new ArrayList<>();
        held.forEach(p -> marks.add(p.marks));
        return marks;
    }

    private static int indexOf(List<Node> nodes, List<Long> marks) {
        for (int i = 0; i < nodes.size(); i++) {
            if (nodes.get(i).marks.equals(marks)) {
                return i;
            }
        }
        return NONE;
    }

    private int makeField(List<Long> start, int most) {
        field = null;
        List<Node> made = new ArrayList<>();
        Node first = new Node();
        first.marks = start;
        made.add(first);
        for (int i = 0; i < made.size(); i++) {
            List<Place> held = asPlaces(made.get(i).marks);
            for (int s = 0; s < steps.size(); s++) {
                if (goesIn(held, s)) {
                    Node node = new Node();
                    node.marks = asMarks(behind(held, s));
                    node.above = i;
                    node.by = s;
                    if (indexOf(made, node.marks) == NONE) {
                        made.add(node);
                    }
                }
            }
            if (made.size() > most) {
                return SPENT;
            }
        }
        field = made;
        return made.size();
    }

    public int field(int most) {
        return outside(most, 1, 8000) ? BAD : anyColoured() ? NO : makeField(asMarks(places), most);
    }

    public int marking(int i, int place) {
        if (noPlace(place)) {
            return BAD;
        }
        return field == null ? NO : outside(i, 0, field.size() - 1) ? BAD : field.get(i).marks.get(place).intValue();
    }

    private int leads(int i, int step) {
        List<Place> held = asPlaces(field.get(i).marks);
        return goesIn(held, step) ? indexOf(field, asMarks(behind(held, step))) : NONE;
    }

    public int next(int i, int step) {
        if (noStep(step)) {
            return BAD;
        }
        return field == null ? NO : outside(i, 0, field.size() - 1) ? BAD : leads(i, step);
    }

    private static List<Integer> wayTo(List<Node> nodes, int i) {
        List<Integer> steps = new ArrayList<>();
        for (int at = i; at != 0; at = nodes.get(at).above) {
            steps.add(0, nodes.get(at).by);
        }
        return steps;
    }

    public int way(int i) {
        if (field == null) {
            return NO;
        }
        if (outside(i, 0, field.size() - 1)) {
            return BAD;
        }
        way = wayTo(field, i);
        return way.size();
    }

    private List<Long> rowAsMarks() {
        List<Long> marks = new ArrayList<>();
        for (int p = 0; p < places.size(); p++) {
            marks.add(rowFor(p));
        }
        return marks;
    }

    public int find() {
        return field == null ? NO : indexOf(field, rowAsMarks());
    }

    public int dead(int k) {
        if (k < 0) {
            return BAD;
        }
        if (field == null) {
            return NO;
        }
        List<Integer> all = new ArrayList<>();
        for (int i = 0; i < field.size(); i++) {
            boolean some = false;
            for (int s = 0; s < steps.size(); s++) {
                some |= leads(i, s) != NONE;
            }
            if (!some) {
                all.add(i);
            }
        }
        return k < all.size() ? all.get(k) : NONE;
    }

    /** [i][j]: whether marking i leads to marking j. */
    private boolean[][] leadings() {
        int n = field.size();
        int[][] to = new int[n][steps.size()];
        for (int i = 0; i < n; i++) {
            for (int s = 0; s < steps.size(); s++) {
                to[i][s] = leads(i, s);
            }
        }
        boolean[][] leads = new boolean[n][n];
        for (int i = 0; i < n; i++) {
            Deque<Integer> open = new ArrayDeque<>(List.of(i));
            leads[i][i] = true;
            while (!open.isEmpty()) {
                for (int j : to[open.pop()]) {
                    if (j != NONE && !leads[i][j]) {
                        leads[i][j] = true;
                        open.push(j);
                    }
                }
            }
        }
        return leads;
    }

    public int stuck(int step) {
        if (noStep(step)) {
            return BAD;
        }
        if (field == null) {
            return NO;
        }
        boolean[][] leads = leadings();
        for (int i = 0; i < field.size(); i++) {
            boolean some = false;
            for (int j = 0; j < field.size(); j++) {
                some |= leads[i][j] && leads(j, step) != NONE;
            }
            if (!some) {
                return i;
            }
        }
        return NONE;
    }

    private int leastThatLeadsNotTo(int end) {
        boolean[][] leads = leadings();
        for (int i = 0; i < field.size(); i++) {
            if (end == NONE || !leads[i][end]) {
                return i;
            }
        }
        return NONE;
    }

    public int home(int i) {
        return field == null ? NO : outside(i, 0, field.size() - 1) ? BAD : leastThatLeadsNotTo(i) == NONE ? 1 : 0;
    }

    private List<Long> oneAt(int place) {
        List<Long> marks = new ArrayList<>(Collections.nCopies(places.size(), 0L));
        marks.set(place, 1L);
        return marks;
    }

    public int works(int b, int e, int most) {
        if (noPlace(b) || noPlace(e) || outside(most, 1, 8000)) {
            return BAD;
        }
        if (anyColoured()) {
            return NO;
        }
        if (makeField(oneAt(b), most) == SPENT) {
            return SPENT;
        }
        int end = indexOf(field, oneAt(e));
        fault = leastThatLeadsNotTo(end);
        if (fault != NONE) {
            return 1;
        }
        for (int i = 0; i < field.size(); i++) {
            if (i != end && field.get(i).marks.get(e) > 0) {
                fault = i;
                return 2;
            }
        }
        for (int s = 0; s < steps.size(); s++) {
            boolean some = false;
            for (int i = 0; i < field.size(); i++) {
                some |= leads(i, s) != NONE;
            }
            if (!some) {
                fault = s;
                return 3;
            }
        }
        return 0;
    }

    public int fault() {
        return fault;
    }

    // ---- the tree

    private static boolean less(Long a, Long b) {
        return a != null && (b == null || a < b);
    }

    private boolean mayAt(List<Long> marks, int step) {
        for (int p = 0; p < marks.size(); p++) {
            int[] asks = steps.get(step).asks[p];
            if (less(marks.get(p), (long) asks[0]) || less(marks.get(p), (long) asks[2])) {
                return false;
            }
        }
        return true;
    }

    private Node child(List<Node> nodes, int i, int step) {
        Node node = new Node();
        node.above = i;
        node.by = step;
        node.marks = new ArrayList<>(nodes.get(i).marks);
        for (int p = 0; p < places.size(); p++) {
            Long n = node.marks.get(p);
            int[] asks = steps.get(step).asks[p];
            node.marks.set(p, n == null ? null : Long.valueOf(n - asks[0] + asks[1]));
        }
        for (int a = i; a != NONE; a = nodes.get(a).above) {
            List<Long> old = nodes.get(a).marks;
            boolean more = false;
            for (int p = 0; p < places.size(); p++) {
                more |= less(node.marks.get(p), old.get(p));
            }
            for (int p = 0; p < places.size() && !more; p++) {
                if (less(old.get(p), node.marks.get(p)) && node.marks.get(p) != null) {
                    node.marks.set(p, null);
                    node.nearest = node.nearest == NONE ? a : node.nearest;
                }
            }
        }
        node.leaf = indexOf(nodes, node.marks) != NONE;
        return node;
    }

    public int tree(int most) {
        if (outside(most, 1, 2000)) {
            return BAD;
        }
        if (anyColoured() || steps.stream().anyMatch(s -> s.kind > 1)) {
            return NO;
        }
        tree = null;
        List<Node> made = new ArrayList<>();
        Node first = new Node();
        first.marks = asMarks(places);
        made.add(first);
        for (int i = 0; i < made.size(); i++) {
            for (int s = 0; s < steps.size() && !made.get(i).leaf; s++) {
                if (mayAt(made.get(i).marks, s)) {
                    made.add(child(made, i, s));
                }
            }
            if (made.size() > most) {
                return SPENT;
            }
        }
        tree = made;
        return made.size();
    }

    public int node(int i, int place) {
        if (noPlace(place)) {
            return BAD;
        }
        if (tree == null) {
            return NO;
        }
        if (outside(i, 0, tree.size() - 1)) {
            return BAD;
        }
        Long n = tree.get(i).marks.get(place);
        return n == null ? ENDLESS : n.intValue();
    }

    public int above(int i, int what) {
        if (outside(what, 0, 2)) {
            return BAD;
        }
        if (tree == null) {
            return NO;
        }
        if (outside(i, 0, tree.size() - 1)) {
            return BAD;
        }
        Node node = tree.get(i);
        return what == 0 ? node.above : what == 1 ? node.by : node.leaf ? 1 : 0;
    }

    public int cover() {
        if (tree == null) {
            return NO;
        }
        for (int i = 0; i < tree.size(); i++) {
            boolean below = false;
            for (int p = 0; p < places.size(); p++) {
                below |= less(tree.get(i).marks.get(p), rowFor(p));
            }
            if (!below) {
                return i;
            }
        }
        return NONE;
    }

    public int bound(int place) {
        if (noPlace(place)) {
            return BAD;
        }
        if (tree == null) {
            return NO;
        }
        Long most = 0L;
        for (Node node : tree) {
            most = less(most, node.marks.get(place)) ? node.marks.get(place) : most;
        }
        return most == null ? ENDLESS : most.intValue();
    }

    public int pump() {
        if (tree == null) {
            return NO;
        }
        for (int i = 0; i < tree.size(); i++) {
            if (tree.get(i).marks.contains(null)) {
                way = wayTo(tree, i);
                return wayTo(tree, tree.get(i).nearest).size();
            }
        }
        return NONE;
    }

    // ---- weights and rounds

    private int change(int step, int place) {
        return steps.get(step).asks[place][1] - steps.get(step).asks[place][0];
    }

    /** null: spent. */
    private static List<BigInteger[]> eliminate(int[][] left) {
        int columns = left.length == 0 ? 0 : left[0].length;
        List<BigInteger[]> rows = new ArrayList<>();
        for (int r = 0; r < left.length; r++) {
            BigInteger[] row = new BigInteger[columns + left.length];
            for (int c = 0; c < row.length; c++) {
                row[c] = BigInteger.valueOf(c < columns ? left[r][c] : c - columns == r ? 1 : 0);
            }
            rows.add(row);
        }
        for (int t = 0; t < columns; t++) {
            int first = 0;
            while (first < rows.size() && rows.get(first)[t].signum() == 0) {
                first++;
            }
            if (first == rows.size()) {
                continue;
            }
            BigInteger[] out = rows.remove(first);
            for (BigInteger[] row : rows) {
                if (row[t].signum() != 0 && !become(row, out, t)) {
                    return null;
                }
            }
        }
        List<BigInteger[]> rest = new ArrayList<>();
        for (BigInteger[] row : rows) {
            rest.add(turned(Arrays.copyOfRange(row, columns, row.length)));
        }
        return rest;
    }

    private static boolean become(BigInteger[] row, BigInteger[] out, int t) {
        BigInteger a = out[t];
        BigInteger b = row[t];
        BigInteger common = BigInteger.ZERO;
        for (int c = 0; c < row.length; c++) {
            row[c] = a.multiply(row[c]).subtract(b.multiply(out[c]));
            common = common.gcd(row[c]);
        }
        boolean small = true;
        for (int c = 0; c < row.length; c++) {
            row[c] = common.signum() == 0 ? row[c] : row[c].divide(common);
            small &= row[c].abs().compareTo(BigInteger.valueOf(1000000000)) <= 0;
        }
        return small;
    }

    private static BigInteger[] turned(BigInteger[] row) {
        for (BigInteger number : row) {
            if (number.signum() != 0) {
                BigInteger sign = BigInteger.valueOf(number.signum());
                return Arrays.stream(row).map(sign::multiply).toArray(BigInteger[]::new);
            }
        }
        return row;
    }

    public int weights() {
        int[][] left = new int[places.size()][steps.size()];
        for (int p = 0; p < places.size(); p++) {
            for (int s = 0; s < steps.size(); s++) {
                left[p][s] = change(s, p);
            }
        }
        weights = eliminate(left);
        return weights == null ? SPENT : weights.size();
    }

    public int weight(int k, int place) {
        return noPlace(place) || weights == null || outside(k, 0, weights.size() - 1)
            ? BAD : weights.get(k)[place].intValueExact();
    }

    public int rounds() {
        int[][] left = new int[steps.size()][places.size()];
        for (int p = 0; p < places.size(); p++) {
            for (int s = 0; s < steps.size(); s++) {
                left[s][p] = change(s, p);
            }
        }
        rounds = eliminate(left);
        return rounds == null ? SPENT : rounds.size();
    }

    public int round(int k, int step) {
        return noStep(step) || rounds == null || outside(k, 0, rounds.size() - 1)
            ? BAD : rounds.get(k)[step].intValueExact();
    }

    public int keeps() {
        for (int s = 0; s < steps.size(); s++) {
            BigInteger sum = BigInteger.ZERO;
            for (int p = 0; p < places.size(); p++) {
                sum = sum.add(BigInteger.valueOf(rowFor(p)).multiply(BigInteger.valueOf(change(s, p))));
            }
            if (sum.signum() != 0) {
                return 0;
            }
        }
        return 1;
    }

    public int turns() {
        boolean below = false;
        for (int s = 0; s < steps.size(); s++) {
            below |= rowFor(s) < 0;
        }
        for (int p = 0; p < places.size(); p++) {
            BigInteger sum = BigInteger.ZERO;
            for (int s = 0; s < steps.size(); s++) {
                sum = sum.add(BigInteger.valueOf(rowFor(s)).multiply(BigInteger.valueOf(change(s, p))));
            }
            if (sum.signum() != 0) {
                return 0;
            }
        }
        return below ? 0 : 1;
    }

    // ---- drains and traps

    private boolean touches(int step, int bits, int what) {
        for (int p = 0; p < places.size(); p++) {
            if ((bits >> p & 1) == 1 && steps.get(step).asks[p][what] > 0) {
                return true;
            }
        }
        return false;
    }

    private boolean isOne(int bits, int what) {
        for (int s = 0; s < steps.size(); s++) {
            boolean takes = touches(s, bits, 0);
            boolean puts = touches(s, bits, 1);
            if (what == 0 && puts && !takes || what == 1 && takes && !puts) {
                return false;
            }
        }
        return bits != 0;
    }

    private TreeSet<Integer> leastOnes(int what) {
        TreeSet<Integer> least = new TreeSet<>();
        for (int bits = 1; bits < 1 << places.size(); bits++) {
            if (isOne(bits, what)) {
                boolean other = false;
                for (int inner = (bits - 1) & bits; inner != 0 && !other; inner = (inner - 1) & bits) {
                    other = isOne(inner, what);
                }
                if (!other) {
                    least.add(bits);
                }
            }
        }
        return least;
    }

    public int sets(int what, int most) {
        if (outside(what, 0, 1) || outside(most, 1, 500)) {
            return BAD;
        }
        sets = new ArrayList<>(leastOnes(what));
        sets = sets.subList(0, Math.min(most, sets.size()));
        return sets.size();
    }

    public int bits(int k) {
        return sets == null || outside(k, 0, sets.size() - 1) ? BAD : sets.get(k);
    }

    private boolean noBits(int bits) {
        return bits < 0 || bits >= 1 << places.size();
    }

    public int isSet(int bits, int what) {
        return outside(what, 0, 1) || noBits(bits) ? BAD : isOne(bits, what) ? 1 : 0;
    }

    public int greatest(int bits, int what) {
        if (outside(what, 0, 1) || noBits(bits)) {
            return BAD;
        }
        int all = 0;
        for (int inner = bits; inner != 0; inner = (inner - 1) & bits) {
            all |= isOne(inner, what) ? inner : 0;
        }
        return all;
    }

    private int takersFrom(int place) {
        return (int) steps.stream().filter(s -> s.asks[place][0] > 0).count();
    }

    public int free() {
        boolean free = !anyColoured();
        for (Step step : steps) {
            free &= step.kind == 0;
            for (int[] asks : step.asks) {
                free &= asks[0] <= 1 && asks[1] <= 1;
            }
        }
        for (int p = 0; p < places.size(); p++) {
            free &= takersFrom(p) > 0;
            for (Step step : steps) {
                for (int q = 0; q < places.size(); q++) {
                    boolean alsoFromOther = q != p && step.asks[p][0] > 0 && step.asks[q][0] > 0;
                    free &= !(takersFrom(p) > 1 && alsoFromOther);
                }
            }
        }
        return free ? 1 : 0;
    }

    private boolean holds(int bits) {
        for (int p = 0; p < places.size(); p++) {
            if ((bits >> p & 1) == 1 && places.get(p).howMany() > 0) {
                return true;
            }
        }
        return false;
    }

    public int bare() {
        for (int drain : leastOnes(0)) {
            int trap = greatest(drain, 1);
            if (trap == 0 || !holds(trap)) {
                return drain;
            }
        }
        return 0;
    }

    public int count(int what) {
        return switch (what) {
            case 0 -> places.size();
            case 1 -> steps.size();
            case 2 -> past.size();
            case 3 -> goings;
            case 4 -> row.length;
            case 5 -> way.size();
            case 6 -> field == null ? 0 : field.size();
            case 7 -> tree == null ? 0 : tree.size();
            case 8 -> weights == null ? 0 : weights.size();
            case 9 -> rounds == null ? 0 : rounds.size();
            case 10 -> sets == null ? 0 : sets.size();
            default -> BAD;
        };
    }
}
