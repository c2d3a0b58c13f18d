/** Promises 1 to 12: a new object, and the calls that make and change what there is. */
final class CallEdges {
    private CallEdges() {
    }

    @Sentence({"So many switches (1 .. 5), nodes (1 .. 8), and B (1 .. 4) frames of room a port; each 2 if it is none such."})
    @Slip(from = "switches >= 1 && switches <= 5 ? switches : 2", to = "switches >= 0 && switches <= 5 ? switches : 2")
    @Slip(from = "switches >= 1 && switches <= 5 ? switches : 2", to = "switches >= 1 && switches <= 6 ? switches : 2")
    @Slip(from = "switches >= 1 && switches <= 5 ? switches : 2", to = "switches > 1 && switches < 5 ? switches : 2")
    @Slip(from = "switches >= 1 && switches <= 5 ? switches : 2", to = "switches >= 1 && switches <= 5 ? switches : 1")
    @Slip(from = "nodes >= 1 && nodes <= 8 ? nodes : 2", to = "nodes >= 0 && nodes <= 8 ? nodes : 2")
    @Slip(from = "nodes >= 1 && nodes <= 8 ? nodes : 2", to = "nodes >= 1 && nodes <= 9 ? nodes : 2")
    @Slip(from = "nodes >= 1 && nodes <= 8 ? nodes : 2", to = "nodes > 1 && nodes < 8 ? nodes : 2")
    @Slip(from = "room >= 1 && room <= 4 ? room : 2", to = "room >= 0 && room <= 4 ? room : 2")
    @Slip(from = "room >= 1 && room <= 4 ? room : 2", to = "room >= 1 && room <= 5 ? room : 2")
    @Slip(from = "room >= 1 && room <= 4 ? room : 2", to = "room > 1 && room < 4 ? room : 2")
    static void sizesOfANewObject(Due due) {
        for (int i = -3; i <= 12; i++) {
            size(due, i);
        }
        for (int wild : Scene.WILD) {
            size(due, wild);
        }
    }

    private static void size(Due due, int size) {
        int switches = size >= 1 && size <= 5 ? size : 2;
        ZonedFabric x = new ZonedFabric(size, 1, 1);
        due.is("the last switch of " + size, x.way(switches - 1, switches), 8);
        due.is("behind the last switch of " + size, x.way(switches, switches + 1), -1);
        int nodes = size >= 1 && size <= 8 ? size : 2;
        ZonedFabric y = new ZonedFabric(1, size, 1);
        due.is("the last node of " + size, y.address(nodes - 1), 0);
        due.is("behind the last node of " + size, y.address(nodes), -1);
        ZonedFabric z = new ZonedFabric(1, 1, size);
        z.wire(0, 0, 16, 0, 1);
        due.is("room " + size, z.port(0, 0, 0), size >= 1 && size <= 4 ? size : 2);
    }

    @Sentence("Domains are the switch's number + 1. No wires, no zones (they are off), TIME 0; all nodes are HOSTS.")
    @Slip(from = "this.domainNow = number + 1;", to = "this.domainNow = Math.max(1, number);")
    @Slip(from = "boolean zonesOn;", to = "boolean zonesOn = true;")
    @Slip(from = "        int time;\n        final int[] counts", to = "        int time = 1;\n        final int[] counts")
    @Slip(from = "            node.host = new Host(shared, node);\n", to = "            node.host = i < 7 ? new Host(shared, node) : null;\n            node.disc = i < 7 ? null : new Disc(shared, node);\n")
    static void aNewObject(Due due) {
        ZonedFabric x = new ZonedFabric(5, 8, 4);
        for (int s = 0; s < 5; s++) {
            for (int d = 0; d <= 16; d++) {
                due.is("way(" + s + ", " + d + ")", x.way(s, d), d == s + 1 ? 8 : -1);
            }
            for (int p = 0; p < 8; p++) {
                due.is("port(" + s + ", " + p + ")", x.port(s, p, 4), -1);
            }
        }
        for (int n = 0; n < 8; n++) {
            due.is("node " + n + " is a host", x.block(n, 0, 0), Long.MIN_VALUE);
            due.is("node " + n + " has no wire", x.port(16 + n, 0, 4), -1);
            due.yes("so it can be a disc", x.disc(n));
        }
        due.no("wire 0", x.cut(0) || x.join(0));
        for (int what = 0; what <= 10; what++) {
            due.is("count(" + what + ")", x.count(what), 0);
        }
        ZonedFabric y = Scene.star(2, 2);
        y.tick(10);
        y.read(0, 1, 0, 0, 1);
        y.tick(20);
        due.is("zones are off", y.status(0), 10);
        y.zoning(true);
        int c = y.read(0, 1, 0, 0, 1);
        y.tick(120);
        due.is("no node is in one", y.status(c), 13);
    }

    @Sentence("A node is a DISC from now on: true; false if there is none such, it is one, it has a wire or had a command.")
    @Slip(from = "one.host == null || one.host.hadCommand || one.port.peer != null", to = "one.host == null || one.port.peer != null")
    @Slip(from = "one.host == null || one.host.hadCommand || one.port.peer != null", to = "one.host == null || one.host.hadCommand")
    @Slip(from = "one.host == null || one.host.hadCommand || one.port.peer != null", to = "one.host == null || one.host.hadCommand || one.port.up")
    @Slip(from = "one.host == null || one.host.hadCommand || one.port.peer != null", to = "one.host != null && (one.host.hadCommand || one.port.peer != null)")
    @Slip(from = "return node >= 0 && node < nodeCount;", to = "return node >= 0 && node <= nodeCount;")
    @Slip(from = "return node >= 0 && node < nodeCount;", to = "return node >= 0 && node < nodeCount - 1;")
    @Slip(from = "hadCommand = true;\n", to = "hadCommand = command.number > 0;\n")
    static void disc(Due due) {
        ZonedFabric x = new ZonedFabric(1, 5, 2);
        for (int wild : Scene.WILD) {
            due.no("disc(" + wild + ")", x.disc(wild));
        }
        due.no("behind the last node", x.disc(5));
        due.yes("the last node", x.disc(4));
        due.no("it is one", x.disc(4));
        due.is("from now on", x.block(4, 1, 15), 0);
        due.is("a command of node 1", x.read(1, 4, 0, 0, 1), 0);
        due.no("it has a command", x.disc(1));
        x.wire(0, 2, 18, 0, 1);
        due.no("it has a wire", x.disc(2));
        x.cut(0);
        due.no("it has one that is cut", x.disc(2));
        x.tick(120);
        due.is("the command has ended", x.status(0), 13);
        due.no("it had a command", x.disc(1));
        due.is("a command that is refused", x.read(3, 4, 0, 16, 1), -1);
        due.yes("is none", x.disc(3));
        due.yes("the first node", x.disc(0));
        due.is("a disc is no host any more", x.read(0, 4, 0, 0, 1), -1);
        due.is("but a disc", x.read(1, 0, 0, 0, 1), 1);
    }

    @Sentence("A new wire from port p of switch a to port q of switch b (another one), or to node b - 16 (b from 16 on, q 0), up at once, with a "
        + "cost 1 .. 9: its number, from 0 on; -1 if there is none such,")
    @Slip(from = "cost < 1 || cost > MOST_COST) {\n            return -1;", to = "cost < 0 || cost > MOST_COST) {\n            return -1;")
    @Slip(from = "cost < 1 || cost > MOST_COST) {\n            return -1;", to = "cost < 1 || cost > MOST_COST + 1) {\n            return -1;")
    @Slip(from = "cost < 1 || cost > MOST_COST) {\n            return -1;", to = "cost < 2 || cost > MOST_COST) {\n            return -1;")
    @Slip(from = "cost < 1 || cost > MOST_COST) {\n            return -1;", to = "cost < 1 || cost >= MOST_COST) {\n            return -1;")
    @Slip(from = "int NODE_BASE = 16;", to = "int NODE_BASE = 15;")
    @Slip(from = "return s >= 0 && s < switches.length;", to = "return s >= 0 && s < switches.length - 1;")
    @Slip(from = "        return wires - 1;", to = "        return wires;")
    static void wire(Due due) {
        ZonedFabric x = new ZonedFabric(3, 2, 3);
        int[][] none = {{-1, 0, 1, 0, 1}, {3, 0, 1, 0, 1}, {16, 0, 1, 0, 1}, {0, -1, 1, 0, 1}, {0, 8, 1, 0, 1}, {0, 0, 0, 1, 1},
            {0, 0, -1, 0, 1}, {0, 0, 3, 0, 1}, {0, 0, 15, 0, 1}, {0, 0, 18, 0, 1}, {0, 0, 1, -1, 1}, {0, 0, 1, 8, 1},
            {0, 0, 16, 1, 1}, {0, 0, 16, -1, 1}, {0, 0, 1, 0, 0}, {0, 0, 1, 0, 10}, {0, 0, 1, 0, -1}, {0, 0, 16, 0, 0}, {0, 0, 16, 0, 10}};
        for (int[] w : none) {
            due.is("wire " + java.util.Arrays.toString(w), x.wire(w[0], w[1], w[2], w[3], w[4]), -1);
        }
        for (int wild : Scene.WILD) {
            for (int i = 0; i < 5; i++) {
                int[] w = {0, 0, 1, 0, 1};
                w[i] = wild;
                due.is("wire " + java.util.Arrays.toString(w), x.wire(w[0], w[1], w[2], w[3], w[4]), -1);
            }
        }
        due.is("the first", x.wire(0, 0, 2, 7, 1), 0);
        due.is("the second", x.wire(2, 0, 1, 7, 9), 1);
        due.is("to the first node", x.wire(1, 0, 16, 0, 9), 2);
        due.is("to the last node", x.wire(2, 6, 17, 0, 1), 3);
        due.is("up at once", x.port(2, 7, 4) + x.port(16, 0, 4), 2);
        x.tick(20);
        due.is("way from 0", x.way(0, 2), 0);
        due.is("addresses", x.address(1), 0x030602);
    }

    @Sentence("a port has a wire, or there are 16.")
    @Slip(from = "int WIRES = 16;", to = "int WIRES = 15;")
    @Slip(from = "int WIRES = 16;", to = "int WIRES = 17;")
    @Slip(from = "first.peer != null || second.peer != null", to = "first.peer != null")
    @Slip(from = "first.peer != null || second.peer != null", to = "second.peer != null")
    @Slip(from = "first.peer != null || second.peer != null", to = "first.up || second.up")
    static void sixteenWires(Due due) {
        ZonedFabric x = new ZonedFabric(5, 8, 1);
        for (int i = 0; i < 15; i++) {
            due.is("wire " + i, i < 8 ? x.wire(0, i, 1, 7 - i, 1) : x.wire(2, i - 8, 8 + i, 0, 1), i);
        }
        due.is("its first port has a wire", x.wire(0, 3, 4, 0, 1), -1);
        due.is("its second port has a wire", x.wire(4, 0, 1, 3, 1), -1);
        due.is("its node has a wire", x.wire(4, 0, 16, 0, 1), -1);
        due.is("its first port is a second one of another wire", x.wire(1, 0, 4, 0, 1), -1);
        due.yes("cut", x.cut(8));
        due.is("its node has a wire that is cut", x.wire(4, 0, 16, 0, 1), -1);
        due.is("its port has a wire that is cut", x.wire(2, 0, 4, 0, 1), -1);
        due.is("the sixteenth", x.wire(3, 0, 4, 0, 1), 15);
        due.is("no seventeenth", x.wire(3, 1, 4, 1, 1), -1);
        due.is("its port is free", x.port(3, 1, 4), -1);
        due.yes("the last one is cut", x.cut(15));
        due.is("a wire that is cut counts", x.wire(3, 1, 4, 1, 1), -1);
        due.is("wires", x.count(9), 16);
    }

    @Sentence("A wire is cut: true; false if there is none such, or it is.")
    @Slip(from = "if (!isWire(wire) || !firstEnds[wire].up) {", to = "if (!isWire(wire)) {")
    @Slip(from = "return wire >= 0 && wire < wires;", to = "return wire >= 0 && wire < wires - 1;")
    @Slip(from = "return wire >= 0 && wire < wires;", to = "return wire >= 0 && wire <= wires;")
    static void cut(Due due) {
        ZonedFabric x = new ZonedFabric(2, 1, 1);
        due.no("none yet", x.cut(0));
        x.wire(0, 0, 1, 0, 1);
        x.wire(0, 1, 16, 0, 1);
        for (int wild : Scene.WILD) {
            due.no("cut(" + wild + ")", x.cut(wild));
        }
        due.no("behind the last", x.cut(2));
        due.yes("the last", x.cut(1));
        due.no("it is cut", x.cut(1));
        due.yes("the first", x.cut(0));
        due.no("it is cut", x.cut(0));
        x.join(0);
        due.yes("joined, it is cut again", x.cut(0));
    }

    @Sentence("A wire that is cut is up again: true; false if there is none such, or it is up.")
    @Slip(from = "if (!isWire(wire) || firstEnds[wire].up) {", to = "if (!isWire(wire)) {")
    @Slip(from = "if (!isWire(wire) || firstEnds[wire].up) {", to = "if (!isWire(wire) || wire == 1) {")
    @Slip(from = "return wire >= 0 && wire < wires;", to = "return wire >= 0 && wire <= wires;")
    static void join(Due due) {
        ZonedFabric x = new ZonedFabric(2, 1, 1);
        due.no("none yet", x.join(0));
        x.wire(0, 0, 1, 0, 1);
        x.wire(0, 1, 16, 0, 1);
        x.cut(1);
        for (int wild : Scene.WILD) {
            due.no("join(" + wild + ")", x.join(wild));
        }
        due.no("behind the last", x.join(2));
        due.no("it is up", x.join(0));
        due.yes("it is cut", x.join(1));
        due.is("up again", x.port(16, 0, 4), 1);
        due.no("it is up again", x.join(1));
        x.tick(10);
        due.is("its node is served", x.address(0), 0x010101);
    }

    @Sentence("A node comes into a zone, or goes out: true; false if there are none such.")
    @Slip(from = "if (zone < 0 || zone >= ZONES || !shared.isNode(node)) {", to = "if (zone < 0 || zone >= ZONES || node < 0 || node > shared.nodeCount) {")
    @Slip(from = "if (zone < 0 || zone >= ZONES || !shared.isNode(node)) {", to = "if (zone < 1 || zone >= ZONES || !shared.isNode(node)) {")
    @Slip(from = "if (zone < 0 || zone >= ZONES || !shared.isNode(node)) {", to = "if (zone < 0 || zone >= ZONES - 1 || !shared.isNode(node)) {")
    @Slip(from = "        int bit = 1 << node;\n", to = "        int bit = 1 << node;\n        if (((shared.zones[zone] & bit) != 0) == in) {\n            return false;\n        }\n")
    static void zone(Due due) {
        ZonedFabric x = new ZonedFabric(1, 3, 1);
        for (int in = 0; in < 2; in++) {
            for (int wild : Scene.WILD) {
                due.no("zone(" + wild + ")", x.zone(wild, 0, in == 1));
                due.no("node " + wild, x.zone(0, wild, in == 1));
            }
            due.no("zone -1", x.zone(-1, 0, in == 1));
            due.no("zone 8", x.zone(8, 0, in == 1));
            due.no("node 3 of three", x.zone(0, 3, in == 1));
            due.yes("zone 0", x.zone(0, 0, in == 1));
            due.yes("zone 7", x.zone(7, 2, in == 1));
            due.yes("again", x.zone(7, 2, in == 1));
        }
    }

    @Sentence("Zones are on, or off.")
    @Slip(from = "shared.zonesOn = on;", to = "shared.zonesOn = !shared.zonesOn;")
    @Slip(from = "shared.zonesOn = on;", to = "shared.zonesOn |= on;")
    @Slip(from = "shared.zonesOn = on;", to = "shared.zonesOn = on;\n        for (int z = 0; z < ZONES && !on; z++) {\n            shared.zones[z] = 0;\n        }")
    static void zoning(Due due) {
        boolean[] turns = {false, false, true, true, false, true};
        ZonedFabric x = Scene.star(3, 2);
        x.zone(0, 0, true);
        x.zone(0, 2, true);
        x.tick(10);
        for (boolean on : turns) {
            x.zoning(on);
            int c = x.read(0, 2, 0, 0, 1);
            int d = x.read(1, 2, 0, 0, 1);
            x.tick(130);
            due.is("a host in its zone", x.status(c), 10);
            due.is("a host in none, zones " + on, x.status(d), on ? 13 : 10);
        }
    }

    @Sentence("A switch has another domain, 1 .. 15: true; false if there is none such, or it has that.")
    @Slip(from = "d < 1 || d > LAST_DOMAIN || switches[s].domainNow == d", to = "d < 0 || d > LAST_DOMAIN || switches[s].domainNow == d")
    @Slip(from = "d < 1 || d > LAST_DOMAIN || switches[s].domainNow == d", to = "d < 1 || d > LAST_DOMAIN + 1 || switches[s].domainNow == d")
    @Slip(from = "d < 1 || d > LAST_DOMAIN || switches[s].domainNow == d", to = "d < 1 || d >= LAST_DOMAIN || switches[s].domainNow == d")
    @Slip(from = "d < 1 || d > LAST_DOMAIN || switches[s].domainNow == d", to = "d < 2 || d > LAST_DOMAIN || switches[s].domainNow == d")
    @Slip(from = "d < 1 || d > LAST_DOMAIN || switches[s].domainNow == d", to = "d < 1 || d > LAST_DOMAIN")
    @Slip(from = "d < 1 || d > LAST_DOMAIN || switches[s].domainNow == d", to = "d < 1 || d > LAST_DOMAIN || switches[s].notices[s].domainTold() == d")
    static void domain(Due due) {
        ZonedFabric x = new ZonedFabric(2, 1, 1);
        x.tick(1);
        for (int wild : Scene.WILD) {
            due.no("switch " + wild, x.domain(wild, 5));
            due.no("domain " + wild, x.domain(0, wild));
        }
        due.no("switch 2 of two", x.domain(2, 5));
        due.no("domain 0", x.domain(0, 0));
        due.no("domain 16", x.domain(0, 16));
        due.no("it has that", x.domain(0, 1));
        due.yes("15", x.domain(0, 15));
        due.no("it has that now", x.domain(0, 15));
        due.yes("back to 1", x.domain(0, 1));
        due.yes("one that another switch has", x.domain(0, 2));
        due.is("it has it", x.way(0, 2), 8);
        due.yes("the last switch", x.domain(1, 1));
        due.is("it has it", x.way(1, 1), 8);
    }

    @Sentence("A bit (8 * byte + 0 the lowest .. 7) of the frame on the way of a wire is turned over, side 0 from its first end (as it was told), "
        + "1 to it: true; false if there is none such.")
    @Slip(from = "bit >= 8 * frame.length", to = "bit > 8 * frame.length")
    @Slip(from = "bit >= 8 * frame.length", to = "bit >= 8 * frame.length - 1")
    @Slip(from = "frame == null || bit < 0 ||", to = "frame == null || bit <= 0 ||")
    @Slip(from = "(byte) (1 << bit % 8)", to = "(byte) (128 >> bit % 8)")
    @Slip(from = "return side == 0 ? firstEnds[wire].sent : secondEnds[wire].sent;", to = "return side == 1 ? firstEnds[wire].sent : secondEnds[wire].sent;")
    @Slip(from = "if (!isWire(wire) || side < 0 || side > 1) {", to = "if (!isWire(wire) || side < 0) {")
    @Slip(from = "if (!isWire(wire) || side < 0 || side > 1) {", to = "if (!isWire(wire) || side > 1) {")
    @Slip(from = "if (frame == null || bit < 0 || bit >= 8 * frame.length) {\n            return false;", to = "if (frame == null || bit < 0 || bit >= 8 * frame.length) {\n            return frame == null && isWire(wire);")
    static void flip(Due due) {
        ZonedFabric x = new ZonedFabric(2, 1, 1);
        due.no("no wire", x.flip(0, 0, 0));
        x.wire(1, 0, 0, 0, 1);
        x.wire(0, 7, 16, 0, 1);
        due.no("no frame yet", x.flip(0, 0, 0));
        x.tick(1);
        for (int wild : Scene.WILD) {
            due.no("wire " + wild, x.flip(wild, 0, 0));
            due.no("side " + wild, x.flip(0, wild, 0));
            due.no("bit " + wild, x.flip(0, 0, wild));
        }
        due.no("side 2", x.flip(0, 2, 0));
        due.no("wire 2", x.flip(2, 0, 0));
        due.no("no frame to the node", x.flip(1, 0, 0));
        due.no("behind the last bit", x.flip(0, 0, 144));
        long first = x.frame(0, 0, 0);
        long last = x.frame(0, 0, 17);
        long other = x.frame(0, 1, 0);
        due.is("side 0 is from switch 1", x.frame(0, 0, 13) >>> 56, 1);
        due.yes("the lowest bit of the first byte", x.flip(0, 0, 0));
        due.is("so", x.frame(0, 0, 0), first ^ 1L << 56);
        due.yes("the highest bit of the first byte", x.flip(0, 0, 7));
        due.is("so", x.frame(0, 0, 0), first ^ 1L << 56 ^ 1L << 63);
        due.yes("the lowest bit of the second byte", x.flip(0, 0, 8));
        due.is("so", x.frame(0, 0, 0), first ^ 1L << 56 ^ 1L << 63 ^ 1L << 48);
        due.yes("the last bit", x.flip(0, 0, 143));
        due.is("so", x.frame(0, 0, 17), last ^ 1L << 63);
        due.is("the other side is as it was", x.frame(0, 1, 0), other);
        due.yes("side 1", x.flip(0, 1, 0));
        due.is("so", x.frame(0, 1, 0), other ^ 1L << 56);
        x.cut(0);
        due.no("no frame where the wire is cut", x.flip(0, 0, 0));
    }

    @Sentence("n ticks: how many frames arrived in them; -1, refused, if n is not 0 .. 300.")
    @Slip(from = "int MOST_TICKS = 300;", to = "int MOST_TICKS = 299;")
    @Slip(from = "int MOST_TICKS = 300;", to = "int MOST_TICKS = 301;")
    @Slip(from = "if (n < 0 || n > MOST_TICKS) {", to = "if (n <= 0 || n > MOST_TICKS) {")
    @Slip(from = "if (n < 0 || n > MOST_TICKS) {", to = "if (n < -1 || n > MOST_TICKS) {")
    @Slip(from = "            sent = null;\n            return 1;", to = "            sent = null;\n            return peer.buffers.size;")
    static void tick(Due due) {
        ZonedFabric x = Scene.star(2, 2);
        for (int wild : Scene.WILD) {
            if (wild != 256) {
                due.is("tick(" + wild + ")", x.tick(wild), -1);
            }
        }
        due.is("tick(-1)", x.tick(-1), -1);
        due.is("tick(301)", x.tick(301), -1);
        due.is("no time went by", x.count(0), 0);
        due.is("tick(0)", x.tick(0), 0);
        due.is("no time went by", x.count(0), 0);
        due.is("tick(300): four times FLOGI and WELCOME for two nodes", x.tick(300), 16);
        due.is("TIME", x.count(0), 300);
        due.is("tick(1)", x.tick(1), 0);
        // frames that arrive where others stay count once
        ZonedFabric y = Scene.star(4, 4);
        y.tick(10);
        int sent = y.count(6);
        for (int i = 0; i < 12; i++) {
            y.write(i % 3, 3, 0, 0, 4, 1L);
        }
        int arrived = 0;
        for (int t = 0; t < 60; t++) {
            arrived += y.tick(1);
        }
        int onTheWay = 0;
        for (int w = 0; w < 8; w++) {
            onTheWay += y.frame(w / 2, w % 2, 0) == 0 ? 0 : 1;
        }
        due.is("all that was sent arrived", arrived, y.count(6) - sent - onTheWay);
    }

    /** Commands that a star of hosts 0 and 1 and disc 2 refuses. */
    private static final int[][] REFUSED = {{-1, 2, 0, 0, 1}, {3, 2, 0, 0, 1}, {2, 2, 0, 0, 1}, {0, 0, 0, 0, 1}, {0, 1, 0, 0, 1},
        {0, 3, 0, 0, 1}, {0, -1, 0, 0, 1}, {2, 0, 0, 0, 1}, {0, 2, -1, 0, 1}, {0, 2, 2, 0, 1}, {0, 2, 0, -1, 1}, {0, 2, 0, 16, 1},
        {0, 2, 0, 0, 0}, {0, 2, 0, 0, 5}, {0, 2, 0, 0, -1}, {0, 2, 0, 13, 4}, {0, 2, 1, 14, 3}, {0, 2, 0, 15, 2}, {0, 2, 0, 16, 0},
        {0, 2, 0, 17, -1}};

    /** A READ or a WRITE of v. */
    private static int begin(ZonedFabric x, boolean writes, int[] c, long v) {
        return writes ? x.write(c[0], c[1], c[2], c[3], c[4], v) : x.read(c[0], c[1], c[2], c[3], c[4]);
    }

    private static ZonedFabric refusals(Due due, boolean writes) {
        ZonedFabric x = Scene.star(3, 2);
        x.tick(10);
        for (int[] c : REFUSED) {
            due.is("command " + java.util.Arrays.toString(c), begin(x, writes, c, 5L), -1);
        }
        for (int wild : Scene.WILD) {
            for (int i = 0; i < 5; i++) {
                int[] c = {0, 2, 0, 1, 4};
                c[i] = wild;
                due.is("command " + java.util.Arrays.toString(c), begin(x, writes, c, 5L), -1);
            }
        }
        due.is("none began", x.count(10) + x.port(16, 0, 2), 0);
        int[][] right = {{0, 2, 1, 12, 4}, {0, 2, 0, 15, 1}, {0, 2, 0, 0, 4}, {0, 2, 1, 0, 1}};
        for (int i = 0; i < 4; i++) {
            due.is("its number", begin(x, writes, right[i], 70L * i), i);
            due.is("phase 0", x.status(i), 0);
            due.is("ASK is in the queue now", x.port(16, 0, 2), i + 1);
        }
        due.is("a fifth", begin(x, writes, right[0], 1L), -1);
        due.is("of the other host", begin(x, writes, new int[] {1, 2, 0, 8, 1}, 5L), 4);
        x.tick(80);
        for (int c = 0; c < 5; c++) {
            due.is("GOOD", x.status(c), 10);
        }
        due.is("the next one", begin(x, writes, right[0], Long.MAX_VALUE - 1), 5);
        x.tick(40);
        return x;
    }

    @Sentence("A host begins a READ: its number, from 0 on (phase 0, what it sends goes to the queue now); -1 if the nodes are no host and disc, "
        + "unit, block, count are out of bounds (block + count at most 16), it has 4 that have not ended,")
    @Slip(from = "block >= 0 && block <= BLOCKS - count", to = "block >= 0 && block <= BLOCKS - 1")
    @Slip(from = "block >= 0 && block <= BLOCKS - count", to = "block >= 0 && block < BLOCKS - count")
    @Slip(from = "block >= 0 && block <= BLOCKS - count", to = "block >= -1 && block <= BLOCKS - count")
    @Slip(from = "block >= 0 && block <= BLOCKS - count", to = "block >= 0 && block + count <= BLOCKS")
    @Slip(from = "return isHost(host) && isDisc(disc) && unit >= 0 && unit < UNITS", to = "return isHost(host) && isDisc(disc) && unit >= 0 && unit <= UNITS")
    @Slip(from = "return isHost(host) && isDisc(disc) && unit >= 0 && unit < UNITS", to = "return isHost(host) && isDisc(disc) && unit > 0 && unit < UNITS")
    @Slip(from = "return isHost(host) && isDisc(disc) && unit >= 0 && unit < UNITS", to = "return isHost(host) && shared.isNode(disc) && unit >= 0 && unit < UNITS")
    @Slip(from = "&& count >= 1 && count <= PARTS", to = "&& count >= 0 && count <= PARTS")
    @Slip(from = "&& count >= 1 && count <= PARTS", to = "&& count >= 1 && count <= PARTS + 1")
    @Slip(from = "&& commandsBegun < COMMANDS && nodes[host].host.hasRoom();", to = "&& commandsBegun < COMMANDS;")
    @Slip(from = "                enter(command, NAMING);", to = "                command.phaseAt = shared.time;")
    static void read(Due due) {
        ZonedFabric x = refusals(due, false);
        due.is("it wrote nothing", x.block(2, 0, 0) | x.block(2, 1, 12), 0);
    }

    @Sentence("A host begins a WRITE: the blocks get v, v + 1, ..: as read().")
    @Slip(from = "data.addLoad(8, command.first + i);", to = "data.addLoad(8, command.first);")
    @Slip(from = "        if (!canBegin(host, disc, unit, block, count)) {\n            return -1;\n        }\n        return begin(host, disc, new Command(true",
        to = "        if (!canBegin(host, disc, unit, Math.min(block, 12), count)) {\n            return -1;\n        }\n        return begin(host, disc, new Command(true")
    @Slip(from = "new Command(true, unit, block, count, v)", to = "new Command(true, unit, block, count, Math.min(v, Long.MAX_VALUE - 3))")
    static void write(Due due) {
        ZonedFabric x = refusals(due, true);
        due.is("v", x.block(2, 1, 12), Long.MAX_VALUE - 1);
        due.is("v + 1", x.block(2, 1, 13), Long.MAX_VALUE);
        due.is("v + 2, round", x.block(2, 1, 14), Long.MIN_VALUE);
        due.is("v + 3", x.block(2, 1, 15), Long.MIN_VALUE + 1);
        for (int b = 0; b < 4; b++) {
            due.is("another v + " + b, x.block(2, 0, b), 140 + b);
        }
        due.is("one block alone", x.block(2, 0, 15), 70);
        due.is("none ahead of it", x.block(2, 0, 14), 0);
    }

    @Sentence("or there are 300.")
    @Slip(from = "int COMMANDS = 300;", to = "int COMMANDS = 299;")
    @Slip(from = "int COMMANDS = 300;", to = "int COMMANDS = 301;")
    static void threeHundredCommands(Due due) {
        ZonedFabric x = new ZonedFabric(1, 4, 1);
        x.disc(3);
        for (int c = 0; c < 300; c++) {
            if (c % 12 == 0) {
                x.tick(120);
            }
            due.is("command", c % 2 == 0 ? x.read(c % 3, 3, 0, 0, 1) : x.write(c % 3, 3, 0, 0, 1, 1L), c);
        }
        due.is("the last", x.status(299), 0);
        x.tick(120);
        due.is("it has ended", x.status(299), 13);
        due.is("no READ more", x.read(0, 3, 0, 0, 1), -1);
        due.is("no WRITE more", x.write(1, 3, 0, 0, 1, 1L), -1);
        due.is("commands", x.count(10), 300);
    }
}
