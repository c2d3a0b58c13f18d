import java.util.function.Predicate;

/** Fabrics that the edges begin with, and what comes of frames that are flipped into others there. */
final class Scene {
    static final int TO_LOGIN = 0xFFFFFE;
    static final int TO_NAMES = 0xFFFFFC;
    static final int TO_SWITCH = 0xFFFFFD;
    static final int[] WILD = {Integer.MIN_VALUE, Integer.MIN_VALUE + 1, -65536, -256, -2, -1, 256, 65536,
        Integer.MAX_VALUE - 1, Integer.MAX_VALUE};

    /** The frame on the way of a wire, in a fabric of its own. */
    static final class Spot {
        final ZonedFabric x;
        final int wire;
        final int side;

        Spot(ZonedFabric x, int wire, int side) {
            this.x = x;
            this.wire = wire;
            this.side = side;
        }

        void become(Due due, int kind, int to, int from, int... load) {
            due.become(x, wire, side, FabricModel.make(kind, to, from, 0, 0, 0, load));
        }
    }

    private Scene() {
    }

    /** One switch; node n is at its port n, by wire n, and the last one is a disc. */
    static ZonedFabric star(int nodes, int room) {
        ZonedFabric x = new ZonedFabric(1, nodes, room);
        x.disc(nodes - 1);
        for (int n = 0; n < nodes; n++) {
            x.wire(0, n, 16 + n, 0, 1);
        }
        return x;
    }

    /** The address of a node in a star. */
    static int home(int node) {
        return 0x010000 | node << 8 | node + 1;
    }

    /** Wire s joins port 1 of switch s to port 0 of the next. */
    static ZonedFabric row(int switches, int room) {
        ZonedFabric x = new ZonedFabric(switches, 2, room);
        for (int s = 0; s + 1 < switches; s++) {
            x.wire(s, 1, s + 1, 0, 1);
        }
        return x;
    }

    /** Host 0 at port 7 of switch 0 by wire 1, disc 1 at port 7 of switch 1 by wire 2; wire 0 joins the two. */
    static ZonedFabric far(int room) {
        ZonedFabric x = row(2, room);
        x.disc(1);
        x.wire(0, 7, 16, 0, 1);
        x.wire(1, 7, 17, 0, 1);
        return x;
    }

    static int kind(ZonedFabric x, int wire, int side) {
        return (int) (x.frame(wire, side, 0) >>> 56);
    }

    /** Goes on till a frame of a KIND is on the way. */
    static void until(Due due, ZonedFabric x, int wire, int side, int kind) {
        for (int t = 0; t < 130 && kind(x, wire, side) != kind; t++) {
            x.tick(1);
        }
        due.is("a frame on the way has KIND", kind(x, wire, side), kind);
    }

    /** A star of a host and a disc at TIME 14, with the host's LOGIN on its way to the switch by wire 0. */
    static Spot login() {
        ZonedFabric x = star(2, 2);
        x.tick(10);
        x.read(0, 1, 0, 0, 1);
        x.tick(4);
        return new Spot(x, 0, 1);
    }

    /** A far pair at TIME 25, with the host's LOGIN on its way from switch 0 to switch 1 by wire 0. */
    static Spot loginBetween() {
        ZonedFabric x = far(2);
        x.tick(20);
        x.read(0, 1, 0, 0, 1);
        x.tick(5);
        return new Spot(x, 0, 0);
    }

    /** What comes of the frame in the next tick: by which of the counts 1 to 5 it is gone, 7 passed on, else 0. */
    static int fate(Due due, Spot spot) {
        int[] before = new int[8];
        for (int what = 1; what <= 7; what++) {
            before[what] = spot.x.count(what);
        }
        spot.x.tick(1);
        int fate = 0;
        for (int what : new int[] {1, 2, 3, 4, 5, 7}) {
            int more = spot.x.count(what) - before[what];
            due.yes("count(" + what + ") grows by 1 at most, and one alone", more == 0 || more == 1 && fate == 0);
            fate = more == 0 ? fate : what;
        }
        return fate;
    }

    /** A frame on the way whose LOAD has so many bytes, in a fabric of two switches and three nodes. */
    static Spot withLoad(int size) {
        ZonedFabric x = new ZonedFabric(2, 3, 4);
        x.disc(2);
        if (size < 10) {
            x.wire(0, 0, 16, 0, 1);
            x.wire(0, 1, 18, 0, 1);
            x.tick(size == 0 ? 3 : size == 1 ? 1 : 10);
            x.read(0, 2, 0, 0, 1);
            x.tick(size < 4 ? 0 : size == 4 ? 3 : 10);
            return new Spot(x, size == 8 ? 1 : 0, size == 1 || size == 8 ? 1 : 0);
        }
        int nodes = (size - 7) % 3 == 0 ? 0 : (size - 7) % 3 == 2 ? 1 : 2;
        int neighbours = (size - 7 - 2 * nodes) / 3;
        for (int i = 0; i < neighbours; i++) {
            x.wire(0, 7 - i, 1, i, 1);
        }
        for (int n = 0; n < nodes; n++) {
            x.wire(0, n, 16 + n, 0, 1);
        }
        x.tick(3);
        return new Spot(x, 0, 0);
    }

    /** Whether a frame with that KIND and LOAD is TRUE where it arrives; two switches and three nodes are there. */
    static boolean isTrue(Due due, int kind, int... load) {
        return isTrue(due, frame -> true, kind, load);
    }

    /** The same of one whose OX is such that its bytes are as wanted: a LOAD too short may go on well in CHECK. */
    static boolean isTrue(Due due, Predicate<int[]> wanted, int kind, int... load) {
        int ox = 0;
        int[] frame = FabricModel.make(kind, 0x0F0001, 0x0F0001, ox, 0, 0, load);
        while (!wanted.test(frame) && ox < 65535) {
            ox++;
            frame = FabricModel.make(kind, 0x0F0001, 0x0F0001, ox, 0, 0, load);
        }
        due.yes("there is such a frame", wanted.test(frame));
        Spot spot = withLoad(load.length);
        due.become(spot.x, spot.wire, spot.side, frame);
        spot.x.tick(1);
        return spot.x.count(1) == 0;
    }
}
