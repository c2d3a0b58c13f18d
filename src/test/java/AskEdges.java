/** Promises 13 to 23: the calls that ask. */
final class AskEdges {
    private AskEdges() {
    }

    /** A star of hosts 0 and 1 and disc 2, with a READ of two blocks that is GOOD since TIME 24, at TIME 30. */
    private static ZonedFabric afterARead() {
        ZonedFabric x = Scene.star(3, 2);
        x.tick(10);
        x.read(0, 2, 0, 0, 2);
        x.tick(20);
        return x;
    }

    @Sentence({"The phase of a command, 0 .. 3; if it has ended: 10 GOOD, 11 BAD, 12 ABORTED, 13 NOT REACHED; -1 if there is none such."})
    @Slip(from = "return isCommand(c) ? commands[c].state : -1;", to = "return isCommand(c) ? commands[c].state : 0;")
    @Slip(from = "return c >= 0 && c < commandsBegun;", to = "return c >= 0 && c < commandsBegun - 1;")
    @Slip(from = "return c >= 0 && c < commandsBegun;", to = "return c >= 0 && c <= commandsBegun;")
    @Slip(from = "int ENDED_GOOD = 10;", to = "int ENDED_GOOD = 14;")
    @Slip(from = "int ENDED_BAD = 11;", to = "int ENDED_BAD = 14;")
    @Slip(from = "int ENDED_ABORTED = 12;", to = "int ENDED_ABORTED = 14;")
    @Slip(from = "int ENDED_UNREACHED = 13;", to = "int ENDED_UNREACHED = 14;")
    static void status(Due due) {
        ZonedFabric x = Scene.star(2, 2);
        x.tick(10);
        due.is("none yet", x.status(0), -1);
        x.read(0, 1, 0, 0, 1);
        for (int wild : Scene.WILD) {
            due.is("status(" + wild + ")", x.status(wild), -1);
        }
        due.is("behind the last", x.status(1), -1);
        int[] phases = {0, 0, 0, 0, 1, 1, 1, 1, 2, 2, 2, 2, 2, 10, 10};
        for (int t = 0; t < phases.length; t++) {
            due.is("status at " + x.count(0), x.status(0), phases[t]);
            x.tick(1);
        }
        int bad = x.read(0, 1, 0, 0, 1);
        Scene.until(due, x, 0, 0, 12);
        due.become(x, 0, 0, FabricModel.make(12, Scene.home(0), Scene.home(1), bad, 0, 0, 1));
        x.tick(1);
        due.is("BAD", x.status(bad), 11);
        int aborted = x.read(0, 1, 0, 0, 1);
        Scene.until(due, x, 0, 0, 11);
        due.yes("DATA is gone", x.flip(0, 0, 0));
        x.tick(2);
        due.is("phase 3", x.status(aborted), 3);
        x.tick(4);
        due.is("ABORTED", x.status(aborted), 12);
        x.cut(1);
        int none = x.read(0, 1, 0, 0, 1);
        x.tick(120);
        due.is("NOT REACHED", x.status(none), 13);
        due.is("behind the last", x.status(none + 1), -1);
        due.is("the first is as it was", x.status(0), 10);
    }

    @Sentence("What a READ got for its block i (0 .. 3), so far; 0 if nothing came, or there is none such.")
    @Slip(from = "if (!isCommand(c) || commands[c].writes || i < 0 || i >= PARTS) {", to = "if (!isCommand(c) || commands[c].writes || i < 0 || i > PARTS) {")
    @Slip(from = "if (!isCommand(c) || commands[c].writes || i < 0 || i >= PARTS) {", to = "if (!isCommand(c) || commands[c].writes || i < 0 || i >= PARTS - 1) {")
    @Slip(from = "if (!isCommand(c) || commands[c].writes || i < 0 || i >= PARTS) {", to = "if (!isCommand(c) || commands[c].writes || i >= PARTS) {")
    @Slip(from = "if (!isCommand(c) || commands[c].writes || i < 0 || i >= PARTS) {\n            return 0L;", to = "if (!isCommand(c) || i < 0 || i >= PARTS || commands[c].state < ENDED_GOOD) {\n            return 0L;")
    static void got(Due due) {
        ZonedFabric x = Scene.star(2, 4);
        x.tick(10);
        due.is("none yet", x.got(0, 0), 0);
        x.write(0, 1, 0, 0, 4, 70L);
        x.tick(30);
        int c = x.read(0, 1, 0, 0, 4);
        Scene.until(due, x, 0, 0, 11);
        for (int came = 0; came <= 4; came++) {
            for (int i = 0; i < 4; i++) {
                due.is("block " + i + " when " + came + " came", x.got(c, i), i < came ? 70 + i : 0);
            }
            x.tick(1);
        }
        due.is("GOOD", x.status(c), 10);
        due.is("block 3", x.got(c, 3), 73);
        due.is("block 4", x.got(c, 4), 0);
        due.is("block -1", x.got(c, -1), 0);
        due.is("behind the last command", x.got(c + 1, 0), 0);
        for (int wild : Scene.WILD) {
            due.is("block " + wild, x.got(c, wild), 0);
            due.is("command " + wild, x.got(wild, 0), 0);
        }
        for (int i = 0; i < 4; i++) {
            due.is("a WRITE got nothing", x.got(0, i), 0);
        }
        int d = x.read(0, 1, 0, 3, 1);
        x.tick(30);
        due.is("one block", x.got(d, 0), 73);
        due.is("no second one", x.got(d, 1), 0);
    }

    @Sentence("When a command began (0), ended (1; -1 not yet), its phase began (2; of one that has ended its last one of 0 .. 3); -1 if there is "
        + "none such, or for another what.")
    @Slip(from = "int endedAt = NONE;", to = "int endedAt;")
    @Slip(from = "            state = how;\n            endedAt = time;", to = "            state = how;\n            phaseAt = time;\n            endedAt = time;")
    @Slip(from = "                return commands[c].phaseAt;\n            default:\n                return -1;", to = "                return commands[c].phaseAt;\n            default:\n                return 0;")
    @Slip(from = "                command.beganAt = shared.time;", to = "                command.beganAt = shared.time + 1;")
    static void when(Due due) {
        ZonedFabric x = Scene.star(3, 2);
        due.is("none yet", x.when(0, 0), -1);
        x.read(1, 2, 0, 0, 1);
        due.is("began at TIME 0", x.when(0, 0), 0);
        due.is("its phase began", x.when(0, 2), 0);
        x.tick(10);
        due.is("read", x.read(0, 2, 0, 0, 1), 1);
        int[] phases = {10, 14, 18, 18};
        int[] ticks = {3, 1, 4, 5};
        for (int i = 0; i < 4; i++) {
            x.tick(ticks[i]);
            due.is("began", x.when(1, 0), 10);
            due.is("ended", x.when(1, 1), i == 3 ? 23 : -1);
            due.is("its phase began", x.when(1, 2), phases[i]);
        }
        due.is("GOOD", x.status(1), 10);
        x.tick(20);
        due.is("its last phase began", x.when(1, 2), 18);
        due.is("ended", x.when(1, 1), 23);
        for (int wild : Scene.WILD) {
            due.is("what " + wild, x.when(1, wild), -1);
            due.is("command " + wild, x.when(wild, 0), -1);
        }
        due.is("what 3", x.when(1, 3), -1);
        due.is("what -1", x.when(1, -1), -1);
        for (int what = 0; what < 3; what++) {
            due.is("behind the last", x.when(2, what), -1);
        }
    }

    @Sentence("What is in a block of a disc; -9223372036854775808 if there is none such.")
    @Slip(from = "unit < 0 || unit >= UNITS || block < 0 || block >= BLOCKS) {", to = "unit < 0 || unit > UNITS || block < 0 || block >= BLOCKS) {")
    @Slip(from = "unit < 0 || unit >= UNITS || block < 0 || block >= BLOCKS) {", to = "unit < 0 || unit >= UNITS || block < -1 || block >= BLOCKS) {")
    @Slip(from = "unit < 0 || unit >= UNITS || block < 0 || block >= BLOCKS) {", to = "unit < 0 || unit >= UNITS || block < 0 || block > BLOCKS) {")
    @Slip(from = "unit < 0 || unit >= UNITS || block < 0 || block >= BLOCKS) {", to = "unit < -1 || unit >= UNITS || block < 0 || block >= BLOCKS) {")
    @Slip(from = "return shared.isNode(node) && nodes[node].disc != null;", to = "return shared.isNode(node);")
    @Slip(from = "long NO_BLOCK = -9223372036854775808L;", to = "long NO_BLOCK = -9223372036854775807L;")
    static void block(Due due) {
        ZonedFabric x = Scene.star(3, 2);
        due.is("the first", x.block(2, 0, 0), 0);
        due.is("the last", x.block(2, 1, 15), 0);
        int[][] none = {{0, 0, 0}, {1, 0, 0}, {3, 0, 0}, {-1, 0, 0}, {2, -1, 0}, {2, -1, 15}, {2, 2, 0}, {2, 0, -1}, {2, 1, -1}, {2, 0, 16}, {2, 1, 16}};
        for (int[] b : none) {
            due.is("block " + java.util.Arrays.toString(b), x.block(b[0], b[1], b[2]), Long.MIN_VALUE);
        }
        for (int wild : Scene.WILD) {
            due.is("node " + wild, x.block(wild, 0, 0), Long.MIN_VALUE);
            due.is("unit " + wild, x.block(2, wild, 0), Long.MIN_VALUE);
            due.is("block " + wild, x.block(2, 0, wild), Long.MIN_VALUE);
        }
        x.tick(10);
        x.write(0, 2, 1, 15, 1, Long.MIN_VALUE);
        x.tick(30);
        due.is("what is in it may be that, too", x.block(2, 1, 15), Long.MIN_VALUE);
        due.is("and not in the one ahead", x.block(2, 1, 14), 0);
    }

    @Sentence("The port of switch s by the way to a domain; 8 if that is its own (as it is now) and it is not OFF; -1 if there is none, or no such "
        + "switch or domain (1 .. 15).")
    @Slip(from = "if (!isSwitch(s) || domain < 1 || domain > LAST_DOMAIN) {\n            return -1;", to = "if (!isSwitch(s) || domain < 1 || domain >= LAST_DOMAIN) {\n            return -1;")
    @Slip(from = "if (!isSwitch(s) || domain < 1 || domain > LAST_DOMAIN) {\n            return -1;", to = "if (!isSwitch(s) || domain < 2 || domain > LAST_DOMAIN) {\n            return -1;")
    @Slip(from = "if (!isSwitch(s) || domain < 1 || domain > LAST_DOMAIN) {\n            return -1;", to = "if (!isSwitch(s) || domain < 1 || domain > LAST_DOMAIN) {\n            return isSwitch(s) ? 8 : -1;")
    @Slip(from = "int OWN_DOMAIN = 8;", to = "int OWN_DOMAIN = 7;")
    @Slip(from = "return one.domainNow == domain && !one.off ?", to = "return one.notices[s].domainTold() == domain && !one.off ?")
    @Slip(from = "return one.domainNow == domain && !one.off ?", to = "return one.domainNow == domain ?")
    static void way(Due due) {
        ZonedFabric x = Scene.row(2, 2);
        due.is("its own at TIME 0", x.way(0, 1), 8);
        x.domain(1, 15);
        x.tick(20);
        due.is("to the last domain", x.way(0, 15), 1);
        due.is("to the first domain", x.way(1, 1), 0);
        due.is("its own, the last", x.way(1, 15), 8);
        due.is("its own, the first", x.way(0, 1), 8);
        due.is("a domain that none has", x.way(0, 2), -1);
        due.is("domain 0", x.way(0, 0), -1);
        due.is("domain 16", x.way(0, 16), -1);
        due.is("domain -1", x.way(0, -1), -1);
        due.is("switch 2 of two", x.way(2, 1), -1);
        due.is("switch -1", x.way(-1, 1), -1);
        due.is("a node", x.way(16, 1), -1);
        for (int wild : Scene.WILD) {
            due.is("domain " + wild, x.way(0, wild), -1);
            due.is("switch " + wild, x.way(wild, 1), -1);
        }
        x.domain(0, 7);
        due.is("its own, as it is now", x.way(0, 7), 8);
        due.is("and as it was", x.way(0, 1), -1);
        due.is("as the other one knows it", x.way(1, 1), 0);
        x.domain(1, 7);
        x.tick(5);
        due.is("1 is OFF: by the way to 0", x.way(1, 7), 0);
    }

    @Sentence("Of the record of switch r that s keeps: 0 its issue, 1 domain, 2 how many neighbours, 3 nodes it tells, 4 the tick in which it was "
        + "kept; -1 if there is none such, or for another what.")
    @Slip(from = "if (!isSwitch(s) || !isSwitch(r) || !switches[s].notices[r].isKept()) {", to = "if (!isSwitch(s) || !isSwitch(r)) {")
    @Slip(from = "if (!isSwitch(s) || !isSwitch(r) || !switches[s].notices[r].isKept()) {", to = "if (!isSwitch(s) || r < 0 || r > switches.length || !switches[s].notices[r].isKept()) {")
    @Slip(from = "                return notice.keptAt;\n            default:\n                return -1;", to = "                return notice.keptAt;\n            default:\n                return 0;")
    @Slip(from = "                return notice.keptAt;", to = "                return shared.time - notice.keptAt;")
    @Slip(from = "            notice.keptAt = shared.time;", to = "            notice.keptAt = shared.time - 1;")
    static void record(Due due) {
        ZonedFabric x = new ZonedFabric(3, 2, 2);
        x.wire(0, 1, 2, 0, 4);
        x.wire(2, 7, 16, 0, 1);
        x.wire(2, 3, 17, 0, 1);
        due.is("none at TIME 0", x.record(0, 0, 0), -1);
        x.tick(5);
        int[][] kept = {{2, 1, 1, 0, 3}, {-1, -1, -1, -1, -1}, {2, 3, 1, 2, 4}};
        for (int r = 0; r < 3; r++) {
            for (int what = -1; what <= 5; what++) {
                due.is("record(0, " + r + ", " + what + ")", x.record(0, r, what), what < 0 || what > 4 ? -1 : kept[r][what]);
            }
        }
        due.is("that of 1 has no neighbour", x.record(1, 1, 2), 0);
        for (int wild : Scene.WILD) {
            due.is("s " + wild, x.record(wild, 0, 0), -1);
            due.is("r " + wild, x.record(0, wild, 0), -1);
            due.is("what " + wild, x.record(0, 0, wild), -1);
        }
        due.is("s 3 of three", x.record(3, 0, 0), -1);
        due.is("r 3 of three", x.record(0, 3, 0), -1);
    }

    @Sentence("Of port p of a switch (p 0 of node s - 16): 0 credits, 1 frames in the buffers, 2 in the queue, 3 its neighbour (-1 without a "
        + "HELLO; of ports to nodes the node; of a node's port the switch), 4 1 if it is up; -1 if there is none such, it has no wire, or for "
        + "another what. (While its wire is cut: 0, 0, 0, -1 or that node or switch, 0.)")
    @Slip(from = "            if (isToNode()) {\n                return nodeThere();", to = "            if (isToNode() && up) {\n                return nodeThere();")
    @Slip(from = "return owner >= NODE_BASE && peer != null ? peer.owner : neighbour;", to = "return owner >= NODE_BASE && peer != null && up ? peer.owner : neighbour;")
    @Slip(from = "            up = false;\n            credits = 0;", to = "            up = false;")
    @Slip(from = "            neighbour = NONE;\n            given = 0;", to = "            given = 0;")
    @Slip(from = "if (one == null || one.peer == null) {\n            return -1;", to = "if (one == null) {\n            return -1;")
    @Slip(from = "                return one.up ? 1 : 0;\n            default:\n                return -1;", to = "                return one.up ? 1 : 0;\n            default:\n                return 0;")
    @Slip(from = "                return one.buffers.size;", to = "                return one.queue.size;")
    static void port(Due due) {
        ZonedFabric x = Scene.far(3);
        x.tick(20);
        int[][] ends = {{0, 1, 3, 0, 0, 1, 1}, {1, 0, 3, 0, 0, 0, 1}, {0, 7, 3, 0, 0, 0, 1}, {1, 7, 3, 0, 0, 1, 1}, {16, 0, 3, 0, 0, 0, 1},
            {17, 0, 3, 0, 0, 1, 1}};
        for (int[] e : ends) {
            for (int what = -1; what <= 5; what++) {
                due.is("port(" + e[0] + ", " + e[1] + ", " + what + ")", x.port(e[0], e[1], what), what < 0 || what > 4 ? -1 : e[2 + what]);
            }
        }
        int[][] none = {{0, 0}, {0, 6}, {0, 8}, {0, -1}, {2, 0}, {-1, 0}, {15, 0}, {18, 0}, {16, 1}, {16, -1}};
        for (int[] p : none) {
            due.is("port(" + p[0] + ", " + p[1] + ")", x.port(p[0], p[1], 4), -1);
        }
        for (int wild : Scene.WILD) {
            due.is("s " + wild, x.port(wild, 0, 4), -1);
            due.is("p " + wild, x.port(0, wild, 4), -1);
            due.is("what " + wild, x.port(0, 1, wild), -1);
        }
        for (int w = 0; w < 3; w++) {
            x.cut(w);
        }
        int[] cutOff = {-1, -1, 0, 1, 0, 1};
        for (int i = 0; i < 6; i++) {
            for (int what = 0; what <= 5; what++) {
                due.is("cut, port(" + ends[i][0] + ", " + ends[i][1] + ", " + what + ")", x.port(ends[i][0], ends[i][1], what),
                    what == 3 ? cutOff[i] : what == 5 ? -1 : 0);
            }
        }
        x.join(0);
        due.is("joined, without a HELLO", x.port(0, 1, 3), -1);
        ZonedFabric y = Scene.star(3, 2);
        y.tick(10);
        y.read(0, 2, 0, 0, 1);
        y.read(1, 2, 0, 0, 1);
        y.tick(5);
        due.is("frames in the buffers", y.port(0, 0, 1) + y.port(0, 1, 1), 1);
        due.is("none in the queues", y.port(0, 0, 2) + y.port(0, 1, 2), 0);
    }

    @Sentence("A node's address, as it knows it; 0 if it has none; -1 if there is no such node.")
    @Slip(from = "return shared.isNode(node) ? nodes[node].address : -1;", to = "return shared.isNode(node) ? nodes[node].address : 0;")
    @Slip(from = "return shared.isNode(node) ? nodes[node].address : -1;", to = "return shared.isNode(node) ? nodes[node].port.peer == null ? 0 : nodes[node].port.peer.given : -1;")
    static void address(Due due) {
        ZonedFabric x = Scene.star(3, 2);
        due.is("none yet", x.address(0), 0);
        x.tick(3);
        due.is("it was given, but the node does not know it", x.address(2), 0);
        due.is("given", x.record(0, 0, 3), 3);
        x.tick(1);
        due.is("the first node's", x.address(0), 0x010001);
        due.is("the last node's", x.address(2), 0x010203);
        due.is("node 3 of three", x.address(3), -1);
        due.is("node 16", x.address(16), -1);
        for (int wild : Scene.WILD) {
            due.is("node " + wild, x.address(wild), -1);
        }
        x.domain(0, 4);
        x.tick(1);
        due.is("it was taken back, but the node does not know it", x.address(2), 0x010203);
        x.tick(1);
        due.is("none", x.address(2), 0);
    }

    @Sentence("Eight bytes of the frame on the way (wire, side as in flip()), from byte i on, the first one highest, 0 behind its end; 0 if there is "
        + "none, or i is below 0.")
    @Slip(from = "int byteHere = i < frame.length - k ? frame.byteAt(i + k) : 0;", to = "int byteHere = frame.byteAt(i + k);")
    @Slip(from = "int byteHere = i < frame.length - k ? frame.byteAt(i + k) : 0;", to = "int byteHere = i + k < frame.length - 1 ? frame.byteAt(i + k) : 0;")
    @Slip(from = "if (frame == null || i < 0) {", to = "if (frame == null || i < -1) {")
    @Slip(from = "if (frame == null || i < 0) {", to = "if (frame == null || i <= 0) {")
    @Slip(from = "eight = eight << 8 | byteHere;", to = "eight = eight >>> 8 | (long) byteHere << 56;")
    @Slip(from = "return side == 0 ? firstEnds[wire].sent : secondEnds[wire].sent;", to = "return side == 1 ? firstEnds[wire].sent : secondEnds[wire].sent;")
    static void frame(Due due) {
        ZonedFabric x = Scene.star(2, 2);
        due.is("none yet", x.frame(0, 1, 0), 0);
        // a frame that was longer ahead of it in the same place: DATA, then DONE
        x.tick(10);
        x.write(0, 1, 0, 0, 1, -1L);
        Scene.until(due, x, 1, 1, 12);
        int[] done = FabricModel.make(12, Scene.home(0), Scene.home(1), 0, 1, 0, 0);
        for (int i = 0; i < 40; i++) {
            long wanted = 0;
            for (int k = i; k < i + 8; k++) {
                wanted = wanted << 8 | (k < done.length ? done[k] : 0);
            }
            due.is("from byte " + i, x.frame(1, 1, i), wanted);
        }
        due.is("from byte -1", x.frame(1, 1, -1), 0);
        due.is("from byte -7", x.frame(1, 1, -7), 0);
        due.is("the other side", x.frame(1, 0, 0), 0);
        due.is("side 2", x.frame(1, 2, 0), 0);
        due.is("side -1", x.frame(1, -1, 0), 0);
        due.is("wire 2 of two", x.frame(2, 1, 0), 0);
        for (int wild : Scene.WILD) {
            due.is("wire " + wild, x.frame(wild, 1, 0), 0);
            due.is("side " + wild, x.frame(1, wild, 0), 0);
            due.is("byte " + wild, x.frame(1, 1, wild), 0);
        }
        x.tick(1);
        due.is("it has arrived", x.frame(1, 1, 0), 0);
        due.is("and goes on", Scene.kind(x, 0, 0), 12);
    }

    @Sentence({"0 TIME; frames that are gone: 1 that were not TRUE, 2 at a node's port by FROM or zones, 3 without a way, 4 by staying, 5 lost at a "
        + "full queue; 6 frames sent on wires, 7 passed on by switches, 8 records issued, 9 wires, 10 commands; -1 for another what."})
    @Slip(from = "return what > 0 && what < COUNTS ? shared.counts[what] : -1;", to = "return what > 0 && what < COUNTS ? shared.counts[what] : 0;")
    @Slip(from = "            shared.tally(SENT);\n", to = "")
    @Slip(from = "                shared.tally(PASSED_ON);\n", to = "")
    @Slip(from = "            shared.tally(ISSUED);\n", to = "")
    @Slip(from = "            return commandsBegun;", to = "            return commandsBegun + 1;")
    @Slip(from = "        if (what == 9) {\n            return wires;", to = "        if (what == 9) {\n            return WIRES;")
    @Slip(from = "if (what > 0 && what < COUNTS) {\n                counts", to = "if (what > 1 && what < COUNTS) {\n                counts")
    static void count(Due due) {
        ZonedFabric x = afterARead();
        // FLOGI and WELCOME of three nodes; ASK, TOLD; LOGIN, LOGGED, COMMAND, two DATA, DONE, each passed on
        int[] counts = {30, 0, 0, 0, 0, 0, 6 + 2 + 12, 6, 2, 3, 1};
        for (int what = -1; what <= 11; what++) {
            due.is("count(" + what + ")", x.count(what), what < 0 || what > 10 ? -1 : counts[what]);
        }
        for (int wild : Scene.WILD) {
            due.is("count(" + wild + ")", x.count(wild), -1);
        }
        Scene.Spot spot = Scene.login();
        due.yes("flip", spot.x.flip(0, 1, 0));
        spot.x.tick(1);
        due.is("not TRUE", spot.x.count(1), 1);
        due.is("none else", spot.x.count(2) + spot.x.count(3) + spot.x.count(4) + spot.x.count(5), 0);
    }

    @Sentence("Books that a right fabric does not need (who keeps none answers 0): 0 frames that a switch passed on to a node's port from a node "
        + "without a common zone then, 1 frames sent without a credit, or that arrived without room, 2 commands that have not ended in 181 ticks.")
    @Slip(from = "    public int broken(int what) {\n        return 0;", to = "    public int broken(int what) {\n        return what == 2 ? 1 : 0;")
    @Slip(from = "    public int broken(int what) {\n        return 0;", to = "    public int broken(int what) {\n        return what < 0 || what > 2 ? -1 : 0;")
    @Slip(from = "command.state == ABORTING && inPhase >= ABORT_LIFE", to = "command.state == ABORTING && inPhase >= ABORT_LIFE + 2")
    static void broken(Due due) {
        ZonedFabric x = Scene.star(3, 1);
        x.tick(10);
        x.write(0, 2, 0, 0, 4, 1L);
        Scene.until(due, x, 0, 1, 9);
        due.yes("COMMAND is gone", x.flip(0, 1, 0));
        x.zoning(true);
        x.tick(180 - (x.count(0) - 10));
        due.is("the longest that a command may last: TIME 190", x.when(0, 1), 190);
        for (int what = -2; what <= 4; what++) {
            due.is("broken(" + what + ")", x.broken(what), 0);
        }
        for (int wild : Scene.WILD) {
            due.is("broken(" + wild + ")", x.broken(wild), 0);
        }
    }
}
