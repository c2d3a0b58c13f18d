/** Zones: which there are, who is in one with whom, and calls that are refused. */
final class ZoneEdges {
    private ZoneEdges() {
    }

    /** Whether a host has an answer of the disc of a star. */
    private static int reads(ZonedFabric x, int host) {
        int c = x.read(host, 2, 0, 0, 1);
        x.tick(130);
        return x.status(c);
    }

    @Sentence("ZONES 0 .. 7 are sets of nodes; while zones are off all nodes have a common one.")
    @Slip(from = "int ZONES = 8;", to = "int ZONES = 7;")
    @Slip(from = "int ZONES = 8;", to = "int ZONES = 9;")
    @Slip(from = "for (int z = 0; z < ZONES; z++) {", to = "for (int z = 1; z < ZONES; z++) {")
    @Slip(from = "            if (!zonesOn) {\n                return true;\n            }\n", to = "")
    @Slip(from = "if ((zones[z] & both) == both) {", to = "if ((zones[z] & both) != 0) {")
    @Slip(from = "shared.zones[zone] & ~bit", to = "shared.zones[zone] ^ bit")
    static void zonesAreSets(Due due) {
        for (int zone = 0; zone <= 7; zone += 7) {
            ZonedFabric x = Scene.star(3, 2);
            x.tick(10);
            due.is("off: all have a common one", reads(x, 0), 10);
            x.zoning(true);
            due.is("on: in none", reads(x, 0), 13);
            due.yes("the host into zone " + zone, x.zone(zone, 0, true));
            due.is("the host alone", reads(x, 0), 13);
            due.yes("the disc into the next", x.zone((zone + 1) % 8, 2, true));
            due.is("each in another", reads(x, 0), 13);
            due.yes("the disc into zone " + zone, x.zone(zone, 2, true));
            due.is("both in zone " + zone, reads(x, 0), 10);
            due.is("another host in none", reads(x, 1), 13);
            due.yes("the other host goes out of what it is not in", x.zone(zone, 1, false));
            due.is("it is in none", reads(x, 1), 13);
            due.yes("the host comes twice", x.zone(zone, 0, true));
            due.yes("and goes once", x.zone(zone, 0, false));
            due.is("the host is out", reads(x, 0), 13);
            x.zoning(false);
            due.is("off", reads(x, 1), 10);
        }
        ZonedFabric x = Scene.star(3, 2);
        due.no("zone 8", x.zone(8, 0, true));
        due.no("zone -1", x.zone(-1, 0, true));
    }

    @Sentence("(A node has one with itself, too, if it is in any, or they are off.")
    @Slip(from = "int both = 1 << one | 1 << other;", to = "if (one == other) {\n                return true;\n            }\n            int both = 1 << one | 1 << other;")
    @Slip(from = "int both = 1 << one | 1 << other;", to = "if (one == other) {\n                return false;\n            }\n            int both = 1 << one | 1 << other;")
    @Slip(from = "if (!isNode(one) || !isNode(other)) {", to = "if (!isNode(one) || !isNode(other) || one == other) {")
    static void aNodeWithItself(Due due) {
        for (int run = 0; run < 3; run++) {
            ZonedFabric x = Scene.star(2, 2);
            x.tick(10);
            x.zoning(run > 0);
            x.zone(7, 0, run > 1);
            x.read(0, 1, 0, 0, 1);
            x.tick(1);
            due.become(x, 0, 1, FabricModel.make(5, Scene.TO_NAMES, Scene.home(0), 0, 0, 0, 0));
            x.tick(2);
            due.is("run " + run + ": TOLD of itself", x.frame(0, 0, 13) >>> 32, run == 1 ? 0 : Scene.home(0));
            Scene.Spot spot = Scene.login();
            spot.x.zoning(run > 0);
            spot.x.zone(7, 0, run > 1);
            spot.become(due, 7, Scene.home(0), Scene.home(0), 0);
            due.is("run " + run + ": a frame to itself", Scene.fate(due, spot), run == 1 ? 2 : 7);
        }
    }

    @Sentence("An address whose last byte is no node + 1 has none with any, also while they are off.)")
    @Slip(from = "if (!isNode(one) || !isNode(other)) {", to = "if (zonesOn && (!isNode(one) || !isNode(other))) {")
    @Slip(from = "if (!isNode(one) || !isNode(other)) {", to = "if (one < 0 || one > nodeCount || !isNode(other)) {")
    static void noNodePlusOne(Due due) {
        for (int last : new int[] {0, 1, 2, 3, 4, 8, 9, 255}) {
            Scene.Spot spot = Scene.loginBetween();
            spot.become(due, 7, 0x020702, 0x010700 | last, 0);
            due.is("FROM's last byte " + last, Scene.fate(due, spot), last == 1 || last == 2 ? 7 : 2);
        }
    }

    @Sentence("A call that is refused changes nothing.")
    @Slip(from = "if (zone < 0 || zone >= ZONES || !shared.isNode(node)) {\n            return false;",
        to = "if (zone < 0 || zone >= ZONES || !shared.isNode(node)) {\n            shared.zonesOn = true;\n            return false;")
    @Slip(from = "if (!canBegin(host, disc, unit, block, count)) {\n            return -1;\n        }\n        return begin(host, disc, new Command(true",
        to = "if (!canBegin(host, disc, unit, block, count)) {\n            if (isHost(host)) {\n                nodes[host].host.hadCommand = true;\n            }\n            return -1;\n        }\n        return begin(host, disc, new Command(true")
    @Slip(from = "if (n < 0 || n > MOST_TICKS) {\n            return -1;", to = "if (n < 0 || n > MOST_TICKS) {\n            shared.time++;\n            return -1;")
    @Slip(from = "if (first == null || second == null || first.peer", to = "if (first != null && first.peer == null) {\n            first.cost = cost;\n            first.peer = second;\n        }\n        if (first == null || second == null || first.peer")
    @Slip(from = "if (!isWire(wire) || firstEnds[wire].up) {\n            return false;", to = "if (!isWire(wire) || firstEnds[wire].up) {\n            if (isWire(wire)) {\n                firstEnds[wire].credits = shared.room;\n            }\n            return false;")
    @Slip(from = "if (frame == null || bit < 0 || bit >= 8 * frame.length) {", to = "if (frame != null) {\n            frame.flipped |= bit == 144;\n            frame.bytes[0] ^= bit == 144 ? 1 : 0;\n        }\n        if (frame == null || bit < 0 || bit >= 8 * frame.length) {")
    static void refusedCalls(Due due) {
        ZonedFabric calm = Scene.star(3, 2);
        ZonedFabric vexed = Scene.star(3, 2);
        int[] ticks = {1, 9, 3, 4, 5, 30, 60, 90};
        for (int step = 0; step < ticks.length; step++) {
            refuse(due, vexed, step);
            due.is("arrived in step " + step, vexed.tick(ticks[step]), calm.tick(ticks[step]));
            if (step == 1) {
                due.is("a command", vexed.write(0, 2, 1, 3, 4, 70L), calm.write(0, 2, 1, 3, 4, 70L));
            }
            for (int what = 0; what <= 10; what++) {
                due.is("count(" + what + ") in step " + step, vexed.count(what), calm.count(what));
            }
            for (int n = 0; n < 3; n++) {
                due.is("credits for node " + n, vexed.port(0, n, 0), calm.port(0, n, 0));
                due.is("credits of node " + n, vexed.port(16 + n, 0, 0), calm.port(16 + n, 0, 0));
                due.is("frame of node " + n, vexed.frame(n, 1, 0), calm.frame(n, 1, 0));
                due.is("frame to node " + n, vexed.frame(n, 0, 0), calm.frame(n, 0, 0));
            }
        }
        due.is("the command", vexed.status(0), 10);
        due.is("a port is as free as it was", vexed.wire(0, 7, 19, 0, 1), calm.wire(0, 7, 19, 0, 1));
        ZonedFabric x = new ZonedFabric(2, 2, 2);
        due.is("a refused read", x.read(0, 1, 0, 0, 1), -1);
        due.is("a refused write", x.write(0, 1, 0, 0, 1, 1L), -1);
        due.is("refused wires", x.wire(0, 0, 18, 0, 1) + x.wire(0, 0, 1, 8, 1) + x.wire(0, 0, 1, 0, 10), -3);
        due.is("no wire at its port", x.port(0, 0, 4), -1);
        due.is("its port is free", x.wire(0, 0, 1, 0, 9), 0);
        due.yes("the node had no command", x.disc(0));
    }

    private static void refuse(Due due, ZonedFabric x, int step) {
        due.no("disc", x.disc(2) || x.disc(0) || x.disc(3) || x.disc(-1));
        due.is("wire", x.wire(0, 0, 16, 0, 1) + x.wire(0, 7, 19, 0, 1) + x.wire(0, 6, 16, 0, 5), -3);
        due.no("cut", x.cut(3) || x.cut(-1));
        due.no("join", x.join(0) || x.join(1) || x.join(3));
        due.no("zone", x.zone(8, 0, true) || x.zone(0, 3, true) || x.zone(-1, 0, false));
        due.no("domain", x.domain(0, 1) || x.domain(0, 16) || x.domain(0, 0) || x.domain(1, 5));
        due.no("flip", x.flip(0, 1, 144 + 88) || x.flip(0, 1, -1) || x.flip(3, 0, 0) || x.flip(0, 2, 0));
        due.no("flip of the first FLOGI", step == 1 && x.flip(1, 1, 144));
        due.is("tick", x.tick(-1) + x.tick(301), -2);
        due.is("read", x.read(2, 2, 0, 0, 1) + x.read(0, 1, 0, 0, 1) + x.read(1, 2, 0, 16, 1), -3);
        due.is("write", x.write(0, 2, 2, 0, 1, 9L) + x.write(1, 2, 0, 0, 5, 9L) + x.write(3, 2, 0, 0, 1, 9L), -3);
    }
}
