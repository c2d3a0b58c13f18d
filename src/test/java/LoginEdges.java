/** What a switch does for the nodes at its ports: addresses, names, and all that it does not take. */
final class LoginEdges {
    private LoginEdges() {
    }

    @Sentence("NODES at a switch: FLOGI (3; TO FFFFFE, LOAD the node): if the switch isn't OFF: the port's node (LOAD isn't looked at) has the "
        + "ADDRESS by domain, port, and WELCOME (4; FROM FFFFFE, TO the address) goes to that port's queue.")
    @Slip(from = "            if (!off) {\n                port.given", to = "            if (notices.length > 0) {\n                port.given")
    @Slip(from = {"takeFlogi(port);\n", "private void takeFlogi(Port port) {", "port.number << 8 | port.nodeThere() + 1;"},
        to = {"takeFlogi(port, frame);\n", "private void takeFlogi(Port port, Frame frame) {", "port.number << 8 | frame.load(0) + 1;"})
    @Slip(from = "port.post(shared.draft(WELCOME, port.given, TO_LOGIN, 0));", to = "port.post(shared.draft(WELCOME, port.given, TO_SWITCH, 0));")
    static void flogi(Due due) {
        ZonedFabric x = Scene.star(2, 2);
        x.tick(1);
        due.become(x, 0, 1, FabricModel.make(3, Scene.TO_LOGIN, 0x123456, 0, 0, 0, 1));
        x.tick(1);
        due.is("WELCOME is in the queue", x.port(0, 0, 2), 1);
        x.tick(1);
        due.frame("WELCOME of the port's node", x, 0, 0, FabricModel.make(4, 0x010001, Scene.TO_LOGIN, 0, 0, 0));
        // 1 has the domain of 0 and is OFF, till they are joined no more
        ZonedFabric y = Scene.far(2);
        y.domain(1, 1);
        y.cut(2);
        y.tick(20);
        y.join(2);
        y.tick(1);
        due.is("FLOGI", Scene.kind(y, 2, 1), 3);
        y.tick(1);
        due.is("FLOGI was taken", y.port(1, 7, 1), 0);
        due.is("1 is OFF: no WELCOME", y.port(1, 7, 2), 0);
        y.tick(8);
        due.is("no address", y.address(1), 0);
        due.is("none is told", y.record(1, 1, 3), 0);
        y.cut(0);
        y.tick(40);
        due.is("not OFF: an address", y.address(1), 0x010702);
    }

    @Sentence("When the switch is OFF, or its domain is another one than that of an address that it gave, that is taken back (in TIMERS, "
        + "first of all, by rising ports): WELCOME TO 0 goes to that port's queue; its record tells that node no more.")
    @Slip(from = "(off || port.given >> 16 != domainNow)", to = "(off)")
    @Slip(from = "(off || port.given >> 16 != domainNow)", to = "(port.given >> 16 != domainNow)")
    @Slip(from = "(off || port.given >> 16 != domainNow)", to = "(off || port.given >> 16 > domainNow)")
    @Slip(from = "                    port.given = 0;\n                    port.post", to = "                    port.post")
    @Slip(from = "port.post(shared.draft(WELCOME, 0, TO_LOGIN, 0));", to = "port.cost += 0;")
    @Slip(from = "            takeBackAddresses();\n            forgetOldRecords();\n            sayHello();\n            tellOwnRecord();",
        to = "            forgetOldRecords();\n            sayHello();\n            tellOwnRecord();\n            takeBackAddresses();")
    static void addressTakenBack(Due due) {
        for (int domain : new int[] {2, 15}) {
            ZonedFabric x = Scene.star(2, 2);
            x.tick(10);
            x.domain(0, domain);
            x.domain(0, 1);
            x.tick(1);
            due.is("the domain is as it was", x.record(0, 0, 3), 2);
            x.domain(0, domain);
            x.tick(1);
            due.is("no node is told in this tick", x.record(0, 0, 3), 0);
            for (int n = 0; n < 2; n++) {
                due.frame("WELCOME TO 0", x, n, 0, FabricModel.make(4, 0, Scene.TO_LOGIN, 0, 0, 0));
                due.is("the node has not heard it", x.address(n), Scene.home(n));
            }
            x.tick(1);
            due.is("now it has", x.address(0) + x.address(1), 0);
            x.tick(1);
            due.is("none is sent again", Scene.kind(x, 0, 0), 0);
        }
        ZonedFabric y = Scene.star(2, 2);
        y.domain(0, 3);
        y.tick(10);
        y.domain(0, 2);
        y.tick(1);
        due.is("to a lower domain", Scene.kind(y, 0, 0), 4);
        // 0 takes the domain of 1, of which 1 hears in the tick behind: then it is OFF
        ZonedFabric z = Scene.far(2);
        z.tick(20);
        z.domain(0, 2);
        z.tick(2);
        due.is("the record of 0 has come", z.record(1, 0, 1), 2);
        due.is("the node is told as yet", z.record(1, 1, 3), 1);
        z.tick(1);
        due.is("taken back: WELCOME", z.frame(2, 0, 0), 0x04000000FFFFFE00L);
        due.is("none is told", z.record(1, 1, 3), 0);
    }

    /** What comes of an ASK of the host of a star: by which count it is gone; 0 if TOLD is in the queue. */
    private static int ask(Due due, int from) {
        Scene.Spot spot = Scene.login();
        spot.become(due, 5, Scene.TO_NAMES, from, 1);
        int fate = Scene.fate(due, spot);
        due.is("TOLD in the queue, FROM " + Integer.toHexString(from), spot.x.port(0, 0, 2), fate == 0 ? 1 : 0);
        return fate;
    }

    @Sentence("ASK (5; TO FFFFFC, LOAD a node): from the address of the port's node (else it is gone, COUNT 2):")
    @Slip(from = "if (port.given == 0 || ask.from() != port.given) {", to = "if (port.given == 0) {")
    @Slip(from = "if (port.given == 0 || ask.from() != port.given) {", to = "if (ask.from() != port.given) {")
    @Slip(from = "if (port.given == 0 || ask.from() != port.given) {\n                shared.tally(NOT_ALLOWED);", to = "if (port.given == 0 || ask.from() != port.given) {")
    static void askFromTheAddress(Due due) {
        due.is("FROM its address", ask(due, Scene.home(0)), 0);
        for (int from : new int[] {0, 0x010002, 0x010101, 0x020001, 0x010102, 0xFFFFFF}) {
            due.is("FROM " + Integer.toHexString(from), ask(due, from), 2);
        }
        // the first FLOGI comes as an ASK: no address was given at that port
        for (int from = 0; from <= 0x010001; from += 0x010001) {
            ZonedFabric x = Scene.star(2, 2);
            x.tick(1);
            due.become(x, 0, 1, FabricModel.make(5, Scene.TO_NAMES, from, 0, 0, 0, 1));
            due.is("without an address, FROM " + from, Scene.fate(due, new Scene.Spot(x, 0, 1)), 2);
            due.is("no TOLD", x.port(0, 0, 2), 0);
        }
    }

    /** The address that the host of wire 0 is told of a node, its ASK being the next frame of it. */
    private static long told(Due due, ZonedFabric x, int node) {
        due.is("ASK", Scene.kind(x, 0, 1), 5);
        due.become(x, 0, 1, FabricModel.make(5, Scene.TO_NAMES, x.address(0), 7, 0, 0, node));
        x.tick(2);
        due.is("TOLD", x.frame(0, 0, 0), 0x06L << 56 | (long) x.address(0) << 32 | 0xFFFFFC00L);
        due.is("its n and node", x.frame(0, 0, 12) >>> 48, 0x0400 | node);
        return x.frame(0, 0, 14) >>> 40;
    }

    @Sentence("TOLD (6; FROM FFFFFC, TO that address, LOAD: the node, its address or 0 (three bytes)) goes to the port's queue:")
    @Slip(from = "shared.draft(TOLD, port.given, TO_NAMES, 0)", to = "shared.draft(TOLD, port.given, TO_LOGIN, 0)")
    @Slip(from = "return notices[s].domainTold() << 16 | port << 8 | node + 1;", to = "return port << 8 | node + 1;")
    @Slip(from = "told.addLoad(3, allowed ? addressOf(node) : 0);", to = "told.addLoad(3, allowed ? Math.max(1, addressOf(node)) : 0);")
    static void toldOrNone(Due due) {
        int[] answers = {0x010001, 0x0F0702, 0, 0};
        for (int node = 0; node < 4; node++) {
            ZonedFabric x = new ZonedFabric(2, 4, 2);
            x.disc(3);
            x.domain(1, 15);
            x.wire(0, 0, 16, 0, 1);
            x.wire(1, 7, 17, 0, 1);
            x.wire(0, 1, 1, 1, 1);
            x.wire(0, 2, 18, 0, 1);
            x.tick(20);
            x.cut(3);
            x.read(0, 3, 0, 0, 1);
            x.tick(1);
            due.is("node " + node, told(due, x, node), answers[node]);
        }
    }

    @Sentence("the address of that node by the records of reached switches that aren't OFF (the lowest number), if the two have a common "
        + "zone.")
    @Slip(from = "for (int s = 0; s < notices.length; s++) {\n                int port = isOn(s)", to = "for (int s = notices.length - 1; s >= 0; s--) {\n                int port = isOn(s)")
    @Slip(from = "int port = isOn(s) ? notices[s].portOf(node) : NONE;", to = "int port = notices[s].portOf(node);")
    @Slip(from = "boolean allowed = shared.inCommonZone(node, port.nodeThere());", to = "boolean allowed = true;")
    @Slip(from = "for (int s = 0; s < notices.length; s++) {\n                int port = isOn(s)", to = "for (int s = 0; s < notices.length - 1; s++) {\n                int port = isOn(s)")
    static void toldByTheLowestNumber(Due due) {
        // host 0 at switch 0; disc 2 at switch 2; node 1 at switch 1, whose record is made to tell of node 2, or not
        for (int run = 0; run < 7; run++) {
            ZonedFabric x = new ZonedFabric(3, 3, 4);
            x.disc(2);
            x.wire(0, 7, 16, 0, 1);
            x.wire(0, 0, 1, 0, 1);
            x.wire(0, 1, 2, 0, 1);
            x.wire(1, 6, 17, 0, 1);
            x.wire(2, 5, 18, 0, 1);
            x.tick(43);
            due.is("the record of 1 is on the way", x.frame(1, 1, 13) >>> 56, 1);
            if (run == 1) {
                due.become(x, 1, 1, FabricModel.make(2, Scene.TO_SWITCH, Scene.TO_SWITCH, 0, 0, 0, 1, 9, 9, 9, 4, 1, 0, 0, 1, 1, 2, 6));
            } else if (run == 2) {
                x.cut(2);
            } else if (run == 3) {
                x.domain(2, 1);
            } else if (run >= 4) {
                x.zoning(true);
                x.zone(0, 0, run != 5);
                x.zone(0, 2, run != 6);
            }
            x.tick(10);
            x.read(0, 2, 0, 0, 1);
            x.tick(1);
            long[] answers = {0x030503, 0x040603, 0, 0, 0x030503, 0, 0};
            due.is("run " + run, told(due, x, 2), answers[run]);
        }
    }

    @Sentence("What is TAKEN at a switch otherwise is gone, not counted: HELLO and RECORD count TO FFFFFD at ports to switches alone, FLOGI TO "
        + "FFFFFE and ASK TO FFFFFC at ports to nodes alone.")
    @Slip(from = "if (to == TO_SWITCH && kind == HELLO && port.isToSwitch()) {", to = "if (kind == HELLO && port.isToSwitch()) {")
    @Slip(from = "if (to == TO_SWITCH && kind == HELLO && port.isToSwitch()) {", to = "if (to == TO_SWITCH && kind == HELLO) {")
    @Slip(from = "} else if (to == TO_SWITCH && kind == RECORD && port.isToSwitch()) {", to = "} else if (kind == RECORD && port.isToSwitch()) {")
    @Slip(from = "} else if (to == TO_LOGIN && kind == FLOGI && port.isToNode()) {", to = "} else if (kind == FLOGI && port.isToNode()) {")
    @Slip(from = "} else if (to == TO_LOGIN && kind == FLOGI && port.isToNode()) {", to = "} else if (to == TO_LOGIN && kind == FLOGI) {")
    @Slip(from = "} else if (to == TO_NAMES && kind == ASK && port.isToNode()) {", to = "} else if (kind == ASK && port.isToNode()) {")
    @Slip(from = "} else if (to == TO_NAMES && kind == ASK && port.isToNode()) {", to = "} else if (to == TO_NAMES && kind == ASK) {")
    static void takenOtherwise(Due due) {
        for (int kind : new int[] {1, 3, 5, 7, 10, 12, 255}) {
            for (int to = Scene.TO_NAMES; to <= Scene.TO_LOGIN; to++) {
                String what = "KIND " + kind + " TO " + Integer.toHexString(to);
                Scene.Spot node = Scene.login();
                node.become(due, kind, to, Scene.home(0), 0);
                due.is(what + " at a node's port, counted", Scene.fate(due, node), 0);
                boolean answered = kind == 3 && to == Scene.TO_LOGIN || kind == 5 && to == Scene.TO_NAMES;
                due.is(what + " at a node's port, answered", node.x.port(0, 0, 2), answered ? 1 : 0);
                node.x.tick(1);
                due.is(what + " at a node's port, no neighbour is told", node.x.record(0, 0, 2), 0);
                ZonedFabric x = Scene.row(2, 2);
                x.tick(1);
                due.become(x, 0, 0, FabricModel.make(kind, to, Scene.TO_SWITCH, 0, 0, 0, 0));
                due.is(what + " at a switch's port, counted", Scene.fate(due, new Scene.Spot(x, 0, 0)), 0);
                due.is(what + " at a switch's port, neighbour", x.port(1, 0, 3), kind == 1 && to == Scene.TO_SWITCH ? 0 : -1);
                due.is(what + " at a switch's port, answered", x.port(1, 0, 2), 0);
                due.is(what + " at a switch's port, buffers", x.port(1, 0, 1), 0);
            }
        }
        for (int to = Scene.TO_NAMES; to <= Scene.TO_LOGIN; to++) {
            ZonedFabric x = Scene.row(2, 2);
            x.tick(43);
            due.become(x, 0, 0, FabricModel.make(2, to, Scene.TO_SWITCH, 0, 0, 0, 0, 0, 0, 3, 9, 1, 1, 1, 1, 0));
            due.is("RECORD, counted", Scene.fate(due, new Scene.Spot(x, 0, 0)), 0);
            due.is("RECORD TO " + Integer.toHexString(to), x.record(1, 0, 1), to == Scene.TO_SWITCH ? 9 : 1);
        }
    }
}
