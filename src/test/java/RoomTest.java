import java.lang.management.ManagementFactory;
import java.lang.reflect.Array;
import java.lang.reflect.Field;
import java.lang.reflect.Modifier;
import java.util.Collections;
import java.util.IdentityHashMap;
import java.util.Set;
import java.util.TreeSet;

/**
 * All calls of a run live in one room: what a new object makes and 512 times what any one call makes, the first one of
 * its kind too, lie together below half of it. What a call makes is known in bytes; each counts as an element here.
 */
public final class RoomTest {
    private static final int CALLS = 512;
    private static final long HALF_OF_ELEMENTS = 7300000L / 2, HALF_OF_OBJECTS = 600000L / 2;
    private static final int SIDE = 16, MOST_FIELD = 8000, MOST_TREE = 2000, MOST_SETS = 500;

    private static final Due due = new Due("RoomTest");
    private static final com.sun.management.ThreadMXBean threads =
        (com.sun.management.ThreadMXBean) ManagementFactory.getThreadMXBean();
    private static final Set<String> measured = new TreeSet<>();
    private static long ofNewObject = 0;
    private static long dearest = 0;

    private interface Act {
        int on(NetHouse x);
    }

    private interface State {
        NetHouse make();
    }

    private record Call(String name, Act act) {
    }

    public static void main(String[] args) throws IllegalAccessException {
        newObject();
        everyCall("an empty net", NetHouse::new);
        everyCall("the largest net", () -> chain(MOST_FIELD - 1, SIDE));
        everyCall("the largest net, all found", () -> allFound(chain(MOST_FIELD - 1, SIDE)));
        everyCall("the largest tree, all found", () -> allFound(chain(MOST_TREE - 1, 1)));
        everyCall("two rings, all found", () -> allFound(rings()));
        everyCall("what grows, all found", () -> allFound(growing()));
        everyCall("coloured places that are full", RoomTest::coloured);
        everyCall("the most sets, all found", () -> allFound(manySets()));
        everyFace();
        largest();
        wholeRuns();
        System.out.println("a new object makes " + ofNewObject + " fields and elements, the dearest call " + dearest + " bytes");
        due.end();
    }

    // ---- what a new object makes

    private static void newObject() throws IllegalAccessException {
        due.part("a new object");
        Set<Object> seen = Collections.newSetFromMap(new IdentityHashMap<>());
        ofNewObject = elementsOf(new NetHouse(), seen);
        due.holds("it makes " + ofNewObject + " elements", ofNewObject < HALF_OF_ELEMENTS);
        due.holds("it makes " + seen.size() + " objects", seen.size() < HALF_OF_OBJECTS / CALLS);
        long before = threads.getCurrentThreadAllocatedBytes();
        NetHouse x = new NetHouse();
        long bytes = threads.getCurrentThreadAllocatedBytes() - before;
        long kept = ofNewObject * 8 + seen.size() * 24L;
        due.holds(bytes + " bytes are what it keeps", x.count(0) == 0 && bytes <= kept);
    }

    /** Fields of an object, or elements of an array, and those of all that it holds. */
    private static long elementsOf(Object one, Set<Object> seen) throws IllegalAccessException {
        if (one == null || !seen.add(one)) {
            return 0;
        }
        if (one.getClass().isArray()) {
            return Array.getLength(one);
        }
        long sum = 0;
        for (Field field : one.getClass().getDeclaredFields()) {
            if (!Modifier.isStatic(field.getModifiers())) {
                field.setAccessible(true);
                sum += 1 + (field.getType().isPrimitive() ? 0 : elementsOf(field.get(one), seen));
            }
        }
        return sum;
    }

    // ---- what one call makes

    private static void everyCall(String state, State maker) {
        due.part(state);
        for (Call call : calls()) {
            // Whatever the machine links at a call's first use is not the call's own.
            call.act.on(new NetHouse());
            NetHouse x = maker.make();
            measure("the first " + call.name, x, call.act);
            measure("the second " + call.name, x, call.act);
            measured.add(call.name);
        }
    }

    private static int measure(String name, NetHouse x, Act act) {
        long before = threads.getCurrentThreadAllocatedBytes();
        int answer = act.on(x);
        long bytes = threads.getCurrentThreadAllocatedBytes() - before;
        dearest = Math.max(dearest, bytes);
        due.holds(name + " makes " + bytes + " bytes", ofNewObject + CALLS * bytes < HALF_OF_ELEMENTS);
        return answer;
    }

    private static Call[] calls() {
        return new Call[] {
            new Call("place", x -> x.place(0)), new Call("place", x -> x.place(1)), new Call("step", x -> x.step(3)),
            new Call("arc", x -> x.arc(0, 0, 9, 9)), new Call("need", x -> x.need(0, 0, 9)),
            new Call("close", x -> x.close(0, 0, 1)), new Call("want", x -> x.want(0, 0, 3, 2)),
            new Call("asks", x -> x.asks(0, 0, 5)), new Call("isOf", x -> x.isOf(0, 3)),
            new Call("mark", x -> x.mark(0, 1000000)), new Call("thing", x -> x.thing(15, 3)),
            new Call("sweep", x -> x.sweep(15)), new Call("many", x -> x.many(15)), new Call("kind", x -> x.kind(15, 19)),
            new Call("share", x -> x.share(15)), new Call("may", x -> x.may(15)), new Call("go", x -> x.go(0)),
            new Call("run", x -> x.run(1)), new Call("run", x -> x.run(1000)), new Call("back", x -> x.back()),
            new Call("row", x -> x.row(16)), new Call("set", x -> x.set(15, 1000000000)), new Call("get", x -> x.get(15)),
            new Call("copy", x -> x.copy(0, 8, 8)), new Call("lay", x -> x.lay(0)), new Call("lift", x -> x.lift()),
            new Call("walk", x -> x.walk(7998)), new Call("check", x -> x.check()),
            new Call("field", x -> x.field(1)), new Call("field", x -> x.field(MOST_FIELD)),
            new Call("marking", x -> x.marking(7999, 15)), new Call("next", x -> x.next(7999, 15)),
            new Call("way", x -> x.way(7999)), new Call("way", x -> x.way(1)), new Call("find", x -> x.find()),
            new Call("dead", x -> x.dead(0)), new Call("dead", x -> x.dead(1)), new Call("stuck", x -> x.stuck(15)),
            new Call("home", x -> x.home(0)), new Call("home", x -> x.home(7999)),
            new Call("works", x -> x.works(0, 15, MOST_FIELD)), new Call("works", x -> x.works(0, 1, MOST_FIELD)),
            new Call("fault", x -> x.fault()), new Call("tree", x -> x.tree(1)), new Call("tree", x -> x.tree(MOST_TREE)),
            new Call("node", x -> x.node(1999, 15)), new Call("above", x -> x.above(1999, 2)),
            new Call("cover", x -> x.cover()), new Call("bound", x -> x.bound(1)), new Call("pump", x -> x.pump()),
            new Call("weights", x -> x.weights()), new Call("weight", x -> x.weight(0, 15)),
            new Call("rounds", x -> x.rounds()), new Call("round", x -> x.round(0, 15)),
            new Call("keeps", x -> x.keeps()), new Call("turns", x -> x.turns()),
            new Call("sets", x -> x.sets(0, MOST_SETS)), new Call("sets", x -> x.sets(1, MOST_SETS)),
            new Call("bits", x -> x.bits(499)), new Call("isSet", x -> x.isSet(65535, 0)),
            new Call("greatest", x -> x.greatest(65535, 1)), new Call("free", x -> x.free()),
            new Call("bare", x -> x.bare()), new Call("count", x -> x.count(10)),
        };
    }

    private static void everyFace() {
        due.part("the face");
        Set<String> face = new TreeSet<>();
        for (var method : NetHouse.class.getDeclaredMethods()) {
            if (Modifier.isPublic(method.getModifiers())) {
                face.add(method.getName());
            }
        }
        due.holds("measured are " + measured + ", there are " + face, measured.equals(face));
    }

    // ---- the largest of each, with the answers that show that they were reached

    private static void largest() {
        due.part("the largest field");
        NetHouse x = chain(MOST_FIELD - 1, SIDE);
        reach("field(8000)", x, y -> y.field(MOST_FIELD), MOST_FIELD);
        reach("stuck(15)", x, y -> y.stuck(15), MOST_FIELD - 1);
        reach("home(7999)", x, y -> y.home(MOST_FIELD - 1), 1);
        reach("dead(0)", x, y -> y.dead(0), MOST_FIELD - 1);
        reach("way(7999)", x, y -> y.way(MOST_FIELD - 1), MOST_FIELD - 1);
        reach("lay(15)", x, y -> y.lay(15), MOST_FIELD);
        reach("lay(15) on the longest way", x, y -> y.lay(15), Due.FULL);
        reach("check()", x, y -> y.check(), MOST_FIELD - 1);
        reach("field(7999)", x, y -> y.field(MOST_FIELD - 1), Due.SPENT);
        NetHouse grows = growing();
        reach("field(8000) of what grows", grows, y -> y.field(MOST_FIELD), Due.SPENT);
        reach("works(0, 15, 8000) of what grows", growing(), y -> y.works(0, 15, MOST_FIELD), Due.SPENT);
        NetHouse w = works();
        reach("works(0, 15, 8000)", w, y -> y.works(0, 15, MOST_FIELD), 0);
        due.is("its markings", w.count(6), 7562);

        due.part("the largest tree");
        NetHouse t = chain(MOST_TREE - 1, 1);
        reach("tree(2000)", t, y -> y.tree(MOST_TREE), MOST_TREE);
        reach("tree(1999)", t, y -> y.tree(MOST_TREE - 1), Due.SPENT);
        reach("tree(2000) of many leaves", chain(MOST_TREE, SIDE), y -> y.tree(MOST_TREE), Due.SPENT);
        reach("tree(2000) of what grows", grows, y -> y.tree(MOST_TREE), 33);
        reach("pump()", grows, y -> y.pump(), 0);

        due.part("the most sets");
        NetHouse s = manySets();
        reach("sets(0, 500)", s, y -> y.sets(0, MOST_SETS), MOST_SETS);
        reach("sets(1, 500)", s, y -> y.sets(1, MOST_SETS), SIDE);
        reach("bare() that looks at all", s, y -> y.bare(), 0);

        due.part("the longest past");
        NetHouse c = coloured();
        reach("run(1000)", c, y -> y.run(1000), 1000);
        due.is("count(2)", c.count(2), 256);
        for (int i = 0; i < 256; i++) {
            reach("back()", c, y -> y.back(), 0);
        }
        reach("back() of none", c, y -> y.back(), Due.NO);
    }

    private static void reach(String name, NetHouse x, Act act, int want) {
        due.is(name, measure(name, x, act), want);
    }

    // ---- runs of 512 calls

    private static void wholeRuns() {
        due.part("whole runs");
        whole("fields", rings(), (x, i) -> i % 3 == 0 ? x.field(1 + (i * 37) % 8000) : i % 3 == 1 ? x.field(8000) : x.stuck(i % 16));
        whole("homes", allFound(rings()), (x, i) -> x.home(i * 13));
        whole("works", works(), (x, i) -> x.works(0, 15, 8000));
        whole("ways", rings(), (x, i) -> i % 2 == 0 ? x.field(8000) : x.way(6929));
        whole("trees", chain(1999, 1), (x, i) -> x.tree(1 + (i * 37) % 2000));
        whole("weights and rounds", rings(), (x, i) -> i % 2 == 0 ? x.weights() : x.rounds());
        whole("sets", manySets(), (x, i) -> i % 2 == 0 ? x.sets(i % 4 / 2, 500) : x.bare());
        whole("runs with things", coloured(), (x, i) -> i % 2 == 0 ? x.run(1000) : x.back());
    }

    private interface Row {
        int on(NetHouse x, int call);
    }

    private static void whole(String name, NetHouse x, Row row) {
        row.on(new NetHouse(), 0);
        long before = threads.getCurrentThreadAllocatedBytes();
        for (int i = 0; i < CALLS; i++) {
            row.on(x, i);
        }
        long bytes = threads.getCurrentThreadAllocatedBytes() - before;
        due.holds(name + " make " + bytes + " bytes", ofNewObject + bytes < HALF_OF_ELEMENTS);
    }

    // ---- states

    private static NetHouse net(int placeKind) {
        NetHouse x = new NetHouse();
        for (int i = 0; i < SIDE; i++) {
            x.place(placeKind);
            x.step(0);
        }
        return x;
    }

    /** So many of the steps move a mark from place 0 to place 1, one marking behind the other. */
    private static NetHouse chain(int marks, int steps) {
        NetHouse x = net(0);
        for (int s = 0; s < steps; s++) {
            move(x, s, 0, 1);
        }
        for (int s = steps; s < SIDE; s++) {
            x.arc(s, 2, 1, 0);
        }
        x.mark(0, marks);
        return x;
    }

    /** A ring of ten places with 2 marks, one of six with 4: 55 times 126 markings. */
    private static NetHouse rings() {
        NetHouse x = net(0);
        for (int i = 0; i < SIDE; i++) {
            move(x, i, i, i == 9 ? 0 : i == 15 ? 10 : i + 1);
        }
        x.mark(0, 2);
        x.mark(10, 4);
        return x;
    }

    /** Each step puts a mark into place 1, and takes none. */
    private static NetHouse growing() {
        NetHouse x = net(0);
        for (int s = 0; s < SIDE; s++) {
            x.arc(s, 1, 0, 1);
        }
        x.mark(0, 1);
        return x;
    }

    private static NetHouse coloured() {
        NetHouse x = net(1);
        for (int p = 0; p < SIDE; p++) {
            for (int i = 0; i < 20; i++) {
                x.thing(p, (p + i) % 4);
            }
            for (int s = 0; s < SIDE; s++) {
                x.arc(s, p, 9, 9);
                x.want(s, p, 0, (s + p) % 4);
            }
        }
        return x;
    }

    /** A least drain has one of each of sixteen fours. */
    private static NetHouse manySets() {
        NetHouse x = net(0);
        for (int s = 0; s < SIDE; s++) {
            for (int p = 0; p < SIDE; p++) {
                int apart = (p - s + SIDE) % SIDE;
                x.arc(s, p, apart < 3 || apart == 4 ? 1 : 0, 1);
            }
            x.mark(s, 1);
        }
        return x;
    }

    /** 1 at the beginning becomes 6 on a line of five places and 7 on one of three: 210 times 36, and two more. */
    private static NetHouse works() {
        NetHouse x = net(0);
        x.arc(0, 0, 1, 0);
        x.arc(0, 1, 0, 6);
        x.arc(0, 6, 0, 7);
        for (int p = 1; p < 5; p++) {
            move(x, p, p, p + 1);
        }
        move(x, 5, 6, 7);
        for (int s = 6; s < 15; s++) {
            move(x, s, 7, 8);
        }
        x.arc(15, 5, 6, 0);
        x.arc(15, 8, 7, 0);
        x.arc(15, 15, 0, 1);
        return x;
    }

    private static void move(NetHouse x, int step, int from, int to) {
        x.arc(step, from, 1, 0);
        x.arc(step, to, 0, 1);
    }

    private static NetHouse allFound(NetHouse x) {
        x.row(16);
        x.field(MOST_FIELD);
        x.tree(MOST_TREE);
        x.weights();
        x.rounds();
        x.sets(0, MOST_SETS);
        x.way(MOST_FIELD - 1);
        return x;
    }
}
