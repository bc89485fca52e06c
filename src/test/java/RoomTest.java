import java.lang.management.ManagementFactory;

/** All calls of a run live in one room of 7.3 million elements: the dearest runs of 512 calls must stay far below it. */
public final class RoomTest {
    private static final int CALLS = 512;
    private static final long ROOM = 7300000L;
    /** Most elements are ints; a run is held to half of the room. */
    private static final long MOST_BYTES = ROOM / 2 * 4;

    private static final Due due = new Due("RoomTest");
    private static final com.sun.management.ThreadMXBean threads =
        (com.sun.management.ThreadMXBean) ManagementFactory.getThreadMXBean();

    private interface Act {
        int on(NetHouse x, int call);
    }

    public static void main(String[] args) {
        due.part("room");
        room("new ones", 0, (x, i) -> new NetHouse().count(0));
        room("fields", 1, (x, i) -> i % 3 == 0 ? x.field(1 + (i * 37) % 8000) : i % 3 == 1 ? x.field(8000) : x.stuck(i % 16));
        room("homes", 1, (x, i) -> i == 0 ? x.field(8000) : x.home(i * 13));
        room("works", 1, (x, i) -> x.works(0, 15, 8000));
        room("ways", 1, (x, i) -> i % 2 == 0 ? x.field(8000) : x.way(6929));
        room("trees", 2, (x, i) -> x.tree(1 + (i * 37) % 2000));
        room("weights and rounds", 1, (x, i) -> i % 2 == 0 ? x.weights() : x.rounds());
        room("sets", 1, (x, i) -> i % 2 == 0 ? x.sets(i % 4 / 2, 500) : x.bare());
        room("runs with things", 3, (x, i) -> i % 2 == 0 ? x.run(1000) : x.back());
        due.end();
    }

    private static void room(String name, int kind, Act act) {
        act.on(net(kind), 0);
        long before = threads.getCurrentThreadAllocatedBytes();
        NetHouse x = net(kind);
        long answers = 0;
        for (int i = 0; i < CALLS; i++) {
            answers += act.on(x, i);
        }
        long bytes = threads.getCurrentThreadAllocatedBytes() - before;
        System.out.println(name + ": " + bytes + " bytes (answers add up to " + answers + ")");
        due.holds(name + " make " + bytes + " bytes", bytes < MOST_BYTES);
    }

    /** 1: a ring of ten places with 2 marks, one of six with 4, 55 times 126 markings; 2: one ring; 3: coloured places. */
    private static NetHouse net(int kind) {
        NetHouse x = new NetHouse();
        for (int i = 0; i < 16 && kind > 0; i++) {
            x.place(kind == 3 ? 1 : 0);
            x.step(0);
        }
        for (int i = 0; i < 16 && kind > 0; i++) {
            int next = kind == 1 && i == 9 ? 0 : kind == 1 && i == 15 ? 10 : (i + 1) % 16;
            x.arc(i, i, 1, 0);
            x.arc(i, next, 0, 1);
            x.thing(i, i % 4);
        }
        x.mark(0, 2);
        x.mark(10, kind == 1 ? 4 : 0);
        return x;
    }
}
