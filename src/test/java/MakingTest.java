/** Promises 1 to 8: new objects, and the calls that make and change what there is. */
public final class MakingTest {
    private static final Due DUE = new Due();
    private static final int[] WILD = {Integer.MIN_VALUE, -1, 300, Integer.MAX_VALUE};

    public static void main(String[] args) {
        newObjects();
        discs();
        wires();
        sixteenWires();
        cutsAndJoins();
        cutTakesWhatIsOnTheWay();
        zones();
        zoneOfANodeWithItself();
        domains();
        DUE.end();
    }

    private static void newObjects() {
        int[][] sizes = {{1, 1}, {5, 5}, {0, 2}, {6, 2}, {-1, 2}, {Integer.MAX_VALUE, 2}, {Integer.MIN_VALUE, 2}};
        for (int[] size : sizes) {
            ZonedFabric x = new ZonedFabric(size[0], 1, 1);
            DUE.is("1: last switch of " + size[0], x.way(size[1] - 1, size[1]), 8);
            DUE.is("1: behind the last switch of " + size[0], x.way(size[1], size[1] + 1), -1);
        }
        int[][] nodes = {{1, 1}, {8, 8}, {0, 2}, {9, 2}, {-7, 2}, {Integer.MAX_VALUE, 2}, {Integer.MIN_VALUE, 2}};
        for (int[] size : nodes) {
            ZonedFabric x = new ZonedFabric(1, size[0], 1);
            DUE.is("1: last node of " + size[0], x.address(size[1] - 1), 0);
            DUE.is("1: behind the last node of " + size[0], x.address(size[1]), -1);
        }
        int[][] rooms = {{1, 1}, {2, 2}, {3, 3}, {4, 4}, {0, 2}, {5, 2}, {-1, 2}, {Integer.MAX_VALUE, 2}};
        for (int[] room : rooms) {
            ZonedFabric x = new ZonedFabric(2, 1, room[0]);
            x.wire(0, 0, 1, 0, 1);
            DUE.is("1: room " + room[0], x.port(0, 0, 0), room[1]);
        }
        ZonedFabric x = new ZonedFabric(3, 3, 1);
        for (int what = 0; what <= 10; what++) {
            DUE.is("1: count(" + what + ")", x.count(what), 0);
        }
        for (int s = 0; s < 3; s++) {
            DUE.is("1: domain of " + s, x.way(s, s + 1), 8);
            DUE.is("1: no way from " + s, x.way(s, (s + 1) % 3 + 1), -1);
            DUE.is("1: no record of " + s, x.record(s, s, 0), -1);
            DUE.is("1: node " + s + " is a host", x.block(s, 0, 0), Long.MIN_VALUE);
            DUE.is("1: no wire at " + s, x.port(s, 0, 4), -1);
        }
    }

    private static void discs() {
        ZonedFabric x = new ZonedFabric(1, 4, 2);
        for (int wild : WILD) {
            DUE.no("2: disc(" + wild + ")", x.disc(wild));
        }
        DUE.no("2: disc(4)", x.disc(4));
        DUE.yes("2: disc(1)", x.disc(1));
        DUE.is("2: its block", x.block(1, 1, 15), 0);
        DUE.no("2: disc(1) again", x.disc(1));
        x.wire(0, 0, 16, 0, 1);
        DUE.no("2: node 0 has a wire", x.disc(0));
        x.cut(0);
        DUE.no("2: node 0 has a wire that is cut", x.disc(0));
        DUE.is("2: so node 0 is a host", x.block(0, 0, 0), Long.MIN_VALUE);
        DUE.is("2: a command of node 2", x.read(2, 1, 0, 0, 1), 0);
        DUE.no("2: node 2 has a command", x.disc(2));
        x.tick(200);
        DUE.is("2: it has ended", x.status(0), 13);
        DUE.no("2: node 2 had a command", x.disc(2));
        DUE.is("2: a refused command is none", x.read(3, 1, 2, 0, 1), -1);
        DUE.yes("2: disc(3), the last one", x.disc(3));
        DUE.is("2: a disc begins no command", x.read(3, 1, 0, 0, 1), -1);
    }

    private static void wires() {
        ZonedFabric x = new ZonedFabric(2, 2, 3);
        int[][] none = {
            {-1, 0, 1, 0, 1}, {2, 0, 1, 0, 1}, {0, -1, 1, 0, 1}, {0, 8, 1, 0, 1}, {0, 0, 0, 1, 1}, {0, 0, 0, 0, 1},
            {0, 0, 2, 0, 1}, {0, 0, 15, 0, 1}, {0, 0, 18, 0, 1}, {0, 0, -1, 0, 1}, {0, 0, 1, -1, 1}, {0, 0, 1, 8, 1},
            {0, 0, 16, 1, 1}, {0, 0, 16, -1, 1}, {0, 0, 1, 0, 0}, {0, 0, 1, 0, 10}, {0, 0, 1, 0, -1},
            {16, 0, 0, 0, 1}, {16, 0, 17, 0, 1}, {0, 0, Integer.MAX_VALUE, 0, 1}, {0, 0, Integer.MIN_VALUE, 0, 1},
            {Integer.MAX_VALUE, 0, 1, 0, 1}, {0, Integer.MIN_VALUE, 1, 0, 1}, {0, 0, 1, Integer.MAX_VALUE, 1},
            {0, 0, 1, 0, Integer.MAX_VALUE}, {0, 0, 1, 0, Integer.MIN_VALUE},
        };
        for (int[] w : none) {
            DUE.is("3: wire " + java.util.Arrays.toString(w), x.wire(w[0], w[1], w[2], w[3], w[4]), -1);
        }
        DUE.is("3: refused ones are none", x.count(9), 0);
        DUE.is("3: refused ones change nothing", x.port(0, 0, 4), -1);
        DUE.is("3: wire 0", x.wire(0, 0, 1, 7, 9), 0);
        DUE.is("3: wire 1", x.wire(1, 0, 17, 0, 1), 1);
        DUE.is("3: the first port has a wire", x.wire(0, 0, 1, 3, 1), -1);
        DUE.is("3: the second port has a wire", x.wire(0, 1, 1, 7, 1), -1);
        DUE.is("3: the node has a wire", x.wire(0, 1, 17, 0, 1), -1);
        x.cut(1);
        DUE.is("3: the node has one, though it is cut", x.wire(0, 1, 17, 0, 1), -1);
        DUE.is("3: count(9)", x.count(9), 2);
        DUE.is("3: up at once", x.port(0, 0, 4), 1);
        DUE.is("3: up at once at the other end", x.port(1, 7, 4), 1);
        DUE.is("3: credits", x.port(1, 7, 0), 3);
        DUE.is("3: no neighbour yet", x.port(1, 7, 3), -1);
        DUE.is("3: the port's node", x.port(1, 0, 3), 1);
        DUE.is("3: the node's switch", x.port(17, 0, 3), 1);
        DUE.is("3: the free port", x.port(0, 1, 4), -1);
    }

    private static void sixteenWires() {
        ZonedFabric x = new ZonedFabric(5, 8, 1);
        int made = 0;
        for (int p = 0; p < 8; p++) {
            DUE.is("3: wire " + made, x.wire(0, p, 1, p, 1), made++);
        }
        for (int p = 0; p < 8; p++) {
            DUE.is("3: wire " + made, x.wire(2, p, 16 + p, 0, 1), made++);
        }
        DUE.is("3: wire 17 of 16", x.wire(3, 0, 4, 0, 1), -1);
        DUE.is("3: its port", x.port(3, 0, 4), -1);
        DUE.is("3: count(9)", x.count(9), 16);
        DUE.yes("4: cut the last", x.cut(15));
        DUE.no("4: cut one more", x.cut(16));
        DUE.is("3: a cut one counts", x.wire(3, 0, 4, 0, 1), -1);
    }

    private static void cutsAndJoins() {
        ZonedFabric x = new ZonedFabric(2, 2, 4);
        DUE.no("4: no wire", x.cut(0));
        DUE.no("5: no wire", x.join(0));
        x.wire(0, 1, 1, 2, 1);
        x.wire(0, 2, 16, 0, 1);
        for (int wild : WILD) {
            DUE.no("4: cut(" + wild + ")", x.cut(wild));
            DUE.no("5: join(" + wild + ")", x.join(wild));
        }
        DUE.no("5: join one that is up", x.join(0));
        x.tick(10);
        DUE.is("4: neighbour ahead", x.port(0, 1, 3), 1);
        DUE.is("4: address ahead", x.address(0), 0x010201);
        DUE.is("4: nodes told ahead", x.record(0, 0, 3), 1);
        DUE.yes("4: cut(0)", x.cut(0));
        DUE.no("4: cut(0) again", x.cut(0));
        DUE.yes("4: cut(1)", x.cut(1));
        int[] down = {0, 0, 0, -1, 0};
        for (int what = 0; what < 5; what++) {
            DUE.is("4: port(0, 1, " + what + ")", x.port(0, 1, what), down[what]);
            DUE.is("4: port(1, 2, " + what + ")", x.port(1, 2, what), down[what]);
        }
        DUE.is("4: the port's node", x.port(0, 2, 3), 0);
        DUE.is("4: the node's switch", x.port(16, 0, 3), 0);
        DUE.is("4: the node's port is down", x.port(16, 0, 4), 0);
        DUE.is("4: the node's credits", x.port(16, 0, 0), 0);
        DUE.is("4: no address", x.address(0), 0);
        DUE.is("4: ways are by the record as issued last", x.way(0, 2), 1);
        x.tick(1);
        DUE.is("4: no way", x.way(0, 2), -1);
        DUE.is("4: no neighbours told", x.record(0, 0, 2), 0);
        DUE.is("4: no nodes told", x.record(0, 0, 3), 0);
        DUE.is("4: nothing arrives", x.tick(30), 0);
        DUE.yes("5: join(0)", x.join(0));
        DUE.yes("5: join(1)", x.join(1));
        DUE.no("5: join(1) again", x.join(1));
        DUE.is("5: credits", x.port(0, 1, 0), 4);
        DUE.is("5: up", x.port(16, 0, 4), 1);
        x.tick(1);
        DUE.is("5: HELLO and FLOGI in the first tick", x.frame(0, 0, 0) >>> 56 << 8 | x.frame(1, 1, 0) >>> 56, 0x103);
        x.tick(5);
        DUE.is("5: neighbour again", x.port(1, 2, 3), 0);
        DUE.is("5: address again", x.address(0), 0x010201);
        DUE.is("5: way again", x.way(0, 2), 1);
    }

    private static void cutTakesWhatIsOnTheWay() {
        ZonedFabric x = new ZonedFabric(2, 1, 2);
        x.wire(0, 0, 1, 0, 1);
        x.tick(1);
        DUE.is("4: HELLO took a credit", x.port(0, 0, 0), 1);
        x.cut(0);
        DUE.is("4: no frame", x.frame(0, 0, 0), 0);
        x.join(0);
        DUE.is("5: all credits", x.port(0, 0, 0), 2);
        DUE.is("4: it does not arrive", x.tick(1), 0);
        DUE.is("4: nor is it counted as gone", x.count(1) + x.count(3) + x.count(5), 0);
        x.tick(1);
        x.cut(0);
        x.join(0);
        x.tick(1);
        DUE.is("5: credits that were to come are gone", x.port(0, 0, 0), 1);
    }

    private static void zones() {
        ZonedFabric x = new ZonedFabric(1, 3, 2);
        x.disc(2);
        for (int n = 0; n < 3; n++) {
            x.wire(0, n, 16 + n, 0, 1);
        }
        int[][] none = {{-1, 0}, {8, 0}, {0, -1}, {0, 3}, {Integer.MAX_VALUE, 0}, {0, Integer.MIN_VALUE}};
        for (int[] z : none) {
            DUE.no("6: zone " + z[0] + " of " + z[1], x.zone(z[0], z[1], true));
            DUE.no("6: out of zone " + z[0] + " of " + z[1], x.zone(z[0], z[1], false));
        }
        DUE.yes("6: into 7", x.zone(7, 0, true));
        DUE.yes("6: into 7 again", x.zone(7, 0, true));
        DUE.yes("6: disc into 7", x.zone(7, 2, true));
        DUE.yes("6: other into 6", x.zone(6, 1, true));
        DUE.yes("6: out of what it is not in", x.zone(5, 1, false));
        x.tick(10);
        DUE.is("7: off, all have a common one", done(x, 1), 10);
        x.zoning(true);
        DUE.is("7: on, in a common one", done(x, 0), 10);
        DUE.is("7: on, in none", done(x, 1), 13);
        x.zone(6, 2, true);
        DUE.is("6: a disc in two zones", done(x, 1), 10);
        DUE.is("6: and still in the first", done(x, 0), 10);
        x.zone(7, 2, false);
        DUE.is("6: out of the first", done(x, 0), 13);
        DUE.is("6: in the second", done(x, 1), 10);
        x.zoning(false);
        DUE.is("7: off again", done(x, 0), 10);
    }

    private static int done(ZonedFabric x, int host) {
        int c = x.read(host, 2, 0, 0, 1);
        x.tick(130);
        return x.status(c);
    }

    private static void zoneOfANodeWithItself() {
        ZonedFabric x = new ZonedFabric(1, 2, 2);
        x.disc(1);
        x.wire(0, 0, 16, 0, 1);
        x.wire(0, 1, 17, 0, 1);
        x.tick(10);
        x.zoning(true);
        int c = x.read(0, 1, 0, 0, 1);
        x.tick(1);
        // ASK for the host itself, who is in no zone, then in one
        DUE.become(x, 0, 1, FabricModel.make(5, 0xFFFFFC, 0x010001, c, 0, 0, 0));
        x.tick(2);
        DUE.is("6: none with itself", x.frame(0, 0, 12) >>> 24, 0x0400000000L);
        x.zone(3, 0, true);
        x.tick(17);
        DUE.become(x, 0, 1, FabricModel.make(5, 0xFFFFFC, 0x010001, c, 0, 0, 0));
        x.tick(2);
        DUE.is("6: one with itself: its address is told", x.frame(0, 0, 12) >>> 24, 0x0400010001L);
    }

    private static void domains() {
        ZonedFabric x = new ZonedFabric(2, 1, 2);
        int[][] none = {{-1, 3}, {2, 3}, {0, 0}, {0, 16}, {0, -1}, {0, 1}, {1, 2}, {Integer.MAX_VALUE, 3},
            {0, Integer.MAX_VALUE}, {Integer.MIN_VALUE, 3}};
        for (int[] d : none) {
            DUE.no("8: domain " + d[0] + " " + d[1], x.domain(d[0], d[1]));
        }
        x.wire(1, 0, 16, 0, 1);
        x.tick(5);
        DUE.is("8: address ahead", x.address(0), 0x020001);
        DUE.yes("8: 15", x.domain(1, 15));
        DUE.no("8: 15 again", x.domain(1, 15));
        DUE.is("8: it is its own at once", x.way(1, 15), 8);
        DUE.is("8: and the old one not", x.way(1, 2), -1);
        DUE.is("8: the record as issued last tells the old one", x.record(1, 1, 1), 2);
        x.tick(1);
        DUE.is("8: the next one the new one", x.record(1, 1, 1), 15);
        DUE.is("8: without the node", x.record(1, 1, 3), 0);
        DUE.is("8: WELCOME", x.frame(0, 0, 0), 0x04000000FFFFFE00L);
        DUE.is("8: the node has heard nothing yet", x.address(0), 0x020001);
        x.tick(1);
        DUE.is("8: no address", x.address(0), 0);
        x.tick(30);
        DUE.is("8: the new one", x.address(0), 0x0F0001);
        DUE.yes("8: 1, which another one has", x.domain(1, 1));
        x.tick(40);
        DUE.is("8: which it does not know of", x.address(0), 0x010001);
    }
}
