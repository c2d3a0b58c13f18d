/** What is on the way, in buffers and in queues, and the credits for it. */
final class WireEdges {
    private WireEdges() {
    }

    @Sentence("Each direction of a wire that is up has at most one frame on the way; it is sent in one tick and arrives in the "
        + "next.")
    @Slip(from = "return up && credits > 0 && sent == null;", to = "return up && credits > 0;")
    @Slip(from = "            port.sendFirst();\n        }", to = "            port.sendFirst();\n            port.sent = null;\n            port.sendFirst();\n        }")
    static void oneOnTheWay(Due due) {
        ZonedFabric x = Scene.star(3, 4);
        x.tick(10);
        int sent = x.count(6);
        for (int i = 0; i < 3; i++) {
            x.read(0, 2, 0, 0, 1);
        }
        int[] arrived = {0, 1, 1, 2};
        for (int t = 0; t < 3; t++) {
            due.is("arrived in tick " + t, x.tick(1), arrived[t]);
            due.is("in the queue behind tick " + t, x.port(16, 0, 2), 2 - t);
            due.is("on the way behind tick " + t, Scene.kind(x, 0, 1), 5);
        }
        due.is("three ASK and a TOLD were sent", x.count(6) - sent, 4);
        ZonedFabric y = Scene.star(3, 4);
        y.tick(10);
        y.read(0, 2, 0, 0, 1);
        y.read(1, 2, 0, 0, 1);
        y.tick(5);
        due.is("of two LOGIN for one port one goes on", y.count(7), 1);
        due.is("the other one stays", y.port(0, 0, 1) + y.port(0, 1, 1), 1);
        due.is("that one arrives", y.tick(1), 1);
        due.is("now the other one is on the way", y.count(7), 2);
        due.is("it arrives, with the first LOGGED", y.tick(1), 2);
    }

    @Sentence("Each port has room for B frames that came (BUFFERS,")
    @Slip(from = "credits = shared.room;", to = "credits = shared.room + 1;")
    @Slip(from = "credits = shared.room;", to = "credits = Math.max(1, shared.room - 1);")
    static void roomForFrames(Due due) {
        for (int room = 1; room <= 4; room++) {
            ZonedFabric x = Scene.star(4, room);
            x.tick(10);
            for (int i = 0; i < 12; i++) {
                x.write(i % 3, 3, 0, 0, 4, 1L);
            }
            int most = 0;
            for (int t = 0; t < 90; t++) {
                x.tick(1);
                for (int p = 0; p < 3; p++) {
                    most = Math.max(most, x.port(0, p, 1));
                }
            }
            due.is("most frames in the buffers of a port with room for " + room, most, room);
        }
    }

    @Sentence("first in, first out).")
    @Slip(from = "                last.next = frame;\n            }\n            last = frame;",
        to = "                frame.next = first;\n                first = frame;\n            }\n            last = last == null ? frame : last;")
    static void firstInFirstOut(Due due) {
        ZonedFabric x = Scene.star(3, 4);
        x.tick(10);
        for (int i = 0; i < 4; i++) {
            x.write(0, 2, 0, 4 * i, 4, 1L);
            x.write(1, 2, 1, 4 * i, 4, 1L);
        }
        int[] last = {-1, -1};
        int seen = 0;
        for (int t = 0; t < 80; t++) {
            x.tick(1);
            if (Scene.kind(x, 2, 0) == 11) {
                int host = (int) (x.frame(2, 0, 6) >>> 56) - 1;
                long rest = x.frame(2, 0, 7);
                int order = (int) (rest >>> 48) * 4 + (int) (rest >>> 24 & 255);
                due.yes("DATA " + order + " of host " + host + " behind " + last[host], order > last[host]);
                last[host] = order;
                seen++;
            }
        }
        due.is("DATA", seen, 32);
    }

    @Sentence("A port has CREDITS, B when its wire comes up")
    @Slip(from = "credits = shared.room;", to = "credits = 2;")
    @Slip(from = "            up = true;\n            credits = shared.room;", to = "            credits = up || calledAt == NEVER ? shared.room : 0;\n            up = true;")
    static void creditsAtFirst(Due due) {
        for (int room = 1; room <= 4; room++) {
            ZonedFabric x = Scene.star(2, room);
            due.is("at the switch", x.port(0, 0, 0), room);
            due.is("at the node", x.port(16, 0, 0), room);
            x.tick(1);
            due.is("FLOGI took one", x.port(16, 0, 0), room - 1);
            x.cut(0);
            x.join(0);
            due.is("at the switch, joined", x.port(0, 0, 0), room);
            due.is("at the node, joined", x.port(16, 0, 0), room);
        }
    }

    @Sentence("(what was to come is gone then);")
    @Slip(from = "            coming = 0;\n            neighbour = NONE;", to = "            neighbour = NONE;")
    static void creditsToComeAreGone(Due due) {
        ZonedFabric x = Scene.star(2, 2);
        x.tick(2);
        due.is("FLOGI was taken, its credit is to come", x.port(16, 0, 0), 1);
        x.cut(0);
        x.join(0);
        x.tick(1);
        due.is("FLOGI took one of two again", x.port(16, 0, 0), 1);
        x.tick(2);
        due.is("its credit came", x.port(16, 0, 0), 2);
    }

    @Sentence("a frame takes one, and can be sent only with one.")
    @Slip(from = "            credits--;\n", to = "")
    @Slip(from = "credits > 0 && sent", to = "credits >= 0 && sent")
    @Slip(from = "if (out.queue.size == 0 && out.canSend()) {", to = "if (out.queue.size == 0 && out.up && out.sent == null) {")
    @Slip(from = "if (queue.first != null && canSend()) {", to = "if (queue.first != null && up && sent == null) {")
    static void onlyWithACredit(Due due) {
        ZonedFabric x = Scene.star(3, 1);
        x.tick(10);
        x.read(0, 2, 0, 0, 1);
        x.read(0, 2, 0, 0, 1);
        int[] queue = {1, 1, 0};
        for (int t = 0; t < 3; t++) {
            x.tick(1);
            due.is("in the queue behind tick " + t, x.port(16, 0, 2), queue[t]);
            due.is("on the way behind tick " + t, Scene.kind(x, 0, 1), t == 1 ? 0 : 5);
            due.is("credits behind tick " + t, x.port(16, 0, 0), 0);
        }
        ZonedFabric y = Scene.star(3, 1);
        y.tick(10);
        y.read(0, 2, 0, 0, 1);
        y.read(1, 2, 0, 0, 1);
        y.tick(5);
        for (int t = 0; t < 3; t++) {
            due.is("passed on by the switch, tick " + t, Scene.kind(y, 2, 0), t == 1 ? 0 : 7);
            due.is("its credits, tick " + t, y.port(0, 2, 0), 0);
            y.tick(1);
        }
    }

    @Sentence("As a frame leaves a buffer (wherever it goes), the sender at the wire's other end gets one more, in the next tick.")
    @Slip(from = "peer.coming++;", to = "peer.credits++;")
    @Slip(from = "peer.coming++;", to = "peer.coming += 2;")
    @Slip(from = "shared.release(leave());", to = "stays = 0;\n            shared.release(buffers.take());")
    @Slip(from = "shared.release(port.leave());", to = "shared.release(port.buffers.take());")
    @Slip(from = "out.send(port.leave());", to = "out.send(port.buffers.take());")
    @Slip(from = "Frame frame = port.leave();", to = "Frame frame = port.buffers.take();")
    static void aCreditComesBack(Due due) {
        int[][] frames = {{7, Scene.home(1), Scene.home(0), 0, 7}, {7, Scene.home(1), Scene.home(0), 9, 1},
            {7, Scene.TO_SWITCH, Scene.home(0), 0, 0}, {7, Scene.home(1), 0, 0, 2}, {7, 0x020102, Scene.home(0), 0, 3}};
        for (int[] f : frames) {
            Scene.Spot spot = Scene.login();
            spot.become(due, f[0], f[1], f[2], f[3]);
            due.is("a credit is taken", spot.x.port(16, 0, 0), 1);
            due.is("where it goes", Scene.fate(due, spot), f[4]);
            due.is("it has left the buffer", spot.x.port(0, 0, 1), 0);
            due.is("the credit is to come, fate " + f[4], spot.x.port(16, 0, 0), 1);
            spot.x.tick(1);
            due.is("it came, fate " + f[4], spot.x.port(16, 0, 0), 2);
        }
        for (int flips = 0; flips < 2; flips++) {
            ZonedFabric x = Scene.star(2, 2);
            x.tick(3);
            due.is("WELCOME took a credit", x.port(0, 0, 0), 1);
            due.yes("flip", flips == 0 || x.flip(0, 0, 7));
            x.tick(1);
            due.is("the node has it", x.address(0), flips == 0 ? Scene.home(0) : 0);
            due.is("the credit is to come", x.port(0, 0, 0), 1);
            x.tick(1);
            due.is("it came", x.port(0, 0, 0), 2);
        }
    }

    @Sentence("When a wire is cut, what is on the way,")
    @Slip(from = "            shared.release(sent);\n            sent = null;\n", to = "")
    static void cutWithFramesOnTheWay(Due due) {
        ZonedFabric x = Scene.row(2, 2);
        x.tick(1);
        due.is("a HELLO each way", Scene.kind(x, 0, 0) + Scene.kind(x, 0, 1), 2);
        x.cut(0);
        due.is("none that way", x.frame(0, 0, 0), 0);
        due.is("none this way", x.frame(0, 1, 0), 0);
        x.join(0);
        due.is("none that way", x.frame(0, 0, 0), 0);
        due.is("none arrives", x.tick(1), 0);
        due.is("two new ones do", x.tick(1), 2);
    }

    @Sentence("in the buffers and QUEUES of both ports is gone,")
    @Slip(from = "                shared.release(buffers.take());", to = "                buffers.size += 0;")
    @Slip(from = "                shared.release(queue.take());", to = "                queue.size += 0;")
    @Slip(from = "for (int left = queue.size; left > 0; left--) {", to = "for (int left = queue.size; left > 1; left--) {")
    @Slip(from = "for (int left = buffers.size; left > 0; left--) {", to = "for (int left = buffers.size; left > 1; left--) {")
    static void cutWithFramesInBuffersAndQueues(Due due) {
        ZonedFabric x = Scene.star(3, 2);
        x.tick(10);
        for (int i = 0; i < 3; i++) {
            x.read(0, 2, 0, 0, 1);
        }
        x.tick(2);
        due.is("ASK in the node's queue", x.port(16, 0, 2), 1);
        due.is("TOLD in the switch's queue", x.port(0, 0, 2), 1);
        x.cut(0);
        x.join(0);
        due.is("none in the node's queue", x.port(16, 0, 2), 0);
        due.is("none in the switch's queue", x.port(0, 0, 2), 0);
        due.is("the next is FLOGI", x.tick(1) + Scene.kind(x, 0, 1), 3);
        due.is("and no TOLD", Scene.kind(x, 0, 0), 0);
        ZonedFabric y = Scene.star(3, 2);
        y.tick(10);
        y.read(0, 2, 0, 0, 1);
        y.read(1, 2, 0, 0, 1);
        y.tick(5);
        int late = y.port(0, 0, 1) == 1 ? 0 : 1;
        due.is("a LOGIN in the buffers", y.port(0, late, 1), 1);
        y.cut(late);
        y.join(late);
        due.is("none in the buffers", y.port(0, late, 1), 0);
        y.tick(1);
        due.is("none is passed on but the first", y.count(7), 1);
    }

    @Sentence("nodes at it have no ADDRESS any more,")
    @Slip(from = "            address = 0;\n            forgetLogins();", to = "            forgetLogins();")
    @Slip(from = "if (shared.isNode(node)) {\n            nodes[node].loseWire();", to = "if (shared.isNode(node) && node > 0) {\n            nodes[node].loseWire();")
    static void cutTakesTheAddress(Due due) {
        ZonedFabric x = Scene.star(2, 2);
        x.tick(10);
        due.is("node 0 ahead", x.address(0), Scene.home(0));
        x.cut(0);
        due.is("node 0", x.address(0), 0);
        due.is("node 1, whose wire is up", x.address(1), Scene.home(1));
        x.join(0);
        due.is("node 0, joined", x.address(0), 0);
        x.cut(1);
        due.is("node 1", x.address(1), 0);
    }

    @Sentence("switches at it no NEIGHBOUR or node there.")
    @Slip(from = "            neighbour = NONE;\n            given = 0;", to = "            given = 0;")
    @Slip(from = "            given = 0;\n            stays = 0;", to = "            stays = 0;")
    static void cutTakesTheNeighbour(Due due) {
        ZonedFabric x = Scene.far(2);
        x.tick(20);
        due.is("neighbour ahead", x.port(0, 1, 3), 1);
        due.is("neighbours told ahead", x.record(0, 0, 2), 1);
        due.is("nodes told ahead", x.record(0, 0, 3), 1);
        x.cut(0);
        x.cut(1);
        x.join(0);
        x.join(1);
        due.is("no neighbour", x.port(0, 1, 3), -1);
        due.is("no neighbour at the other end", x.port(1, 0, 3), -1);
        x.tick(1);
        due.is("no neighbours told", x.record(0, 0, 2), 0);
        due.is("no nodes told", x.record(0, 0, 3), 0);
        due.is("the other end tells none", x.record(1, 1, 2), 0);
        due.is("but its node, whose wire is up", x.record(1, 1, 3), 1);
    }

    @Sentence("QUEUES are what a port is to send itself: at most 32 frames (one more is lost;")
    @Slip(from = "int QUEUE_ROOM = 32;", to = "int QUEUE_ROOM = 31;")
    @Slip(from = "int QUEUE_ROOM = 32;", to = "int QUEUE_ROOM = 33;")
    @Slip(from = "                shared.tally(QUEUE_FULL);", to = "                shared.tally(NO_WAY);")
    static void fullQueue(Due due) {
        ZonedFabric x = Scene.star(4, 4);
        x.tick(10);
        for (int i = 0; i < 12; i++) {
            x.read(i % 3, 3, 0, 0, 4);
        }
        int queue = 0;
        int lost = 0;
        int full = 0;
        for (int t = 0; t < 60; t++) {
            int comes = Scene.kind(x, 3, 0);
            x.tick(1);
            // a READ of four blocks is answered by four DATA and DONE, a LOGIN by LOGGED
            int wanted = queue + (comes == 9 ? 5 : comes == 7 ? 1 : 0);
            int sent = x.frame(3, 1, 0) == 0 ? 0 : 1;
            queue = x.port(19, 0, 2);
            due.is("in the queue of " + wanted, queue, Math.min(wanted, 32) - sent);
            due.is("lost of " + wanted, x.count(5) - lost, Math.max(0, wanted - 32));
            lost = x.count(5);
            full += wanted == 32 || wanted == 33 ? 1 : 0;
        }
        due.yes("the queue was full", lost > 0);
        due.yes("just so, or by one", full > 0);
    }

    @Sentence("at a port that is not up all, which COUNT 5 does not tell).")
    @Slip(from = {"if (node.address == 0 || command.isEnded()) {", "            if (up) {\n                shared.tally"},
        to = {"if (command.isEnded()) {", "            if (queue != null) {\n                shared.tally"})
    @Slip(from = {"if (node.address == 0 || command.isEnded()) {", "if (up && queue.size < QUEUE_ROOM) {"},
        to = {"if (command.isEnded()) {", "if (queue.size < QUEUE_ROOM) {"})
    static void lostAtAPortThatIsNotUp(Due due) {
        ZonedFabric x = Scene.star(2, 2);
        x.tick(10);
        x.cut(0);
        for (int i = 0; i < 4; i++) {
            due.is("read", x.read(0, 1, 0, 0, 1), i);
        }
        due.is("none in the queue", x.port(16, 0, 2), 0);
        due.is("none is counted", x.count(5), 0);
        x.tick(50);
        due.is("nor of those that are sent again", x.count(5), 0);
        x.join(0);
        due.is("none in the queue, joined", x.port(16, 0, 2), 0);
    }

    @Sentence("ADDRESSES are three bytes: domain, port, node + 1.")
    @Slip(from = "port.number << 8 | port.nodeThere() + 1;", to = "port.number << 8 | port.nodeThere();")
    @Slip(from = "domainNow << 16 | port.number << 8", to = "domainNow << 16 | (port.number & 3) << 8")
    @Slip(from = "domainNow << 16 | port.number << 8", to = "(domainNow & 7) << 16 | port.number << 8")
    static void addresses(Due due) {
        ZonedFabric x = new ZonedFabric(5, 8, 1);
        x.domain(4, 15);
        x.wire(4, 7, 23, 0, 1);
        x.wire(0, 0, 16, 0, 1);
        x.tick(5);
        due.is("the least", x.address(0), 0x010001);
        due.is("the greatest", x.address(7), 0x0F0708);
    }

    @Sentence("FFFFFE, FFFFFC, FFFFFD (base 16) mean the switch at which a frame is.")
    @Slip(from = "if (to != TO_LOGIN && to != TO_NAMES && to != TO_SWITCH) {", to = "if (to < 0xFFFFFB || to > TO_LOGIN) {")
    @Slip(from = "if (to != TO_LOGIN && to != TO_NAMES && to != TO_SWITCH) {", to = "if (to < TO_NAMES) {")
    @Slip(from = "if (to != TO_LOGIN && to != TO_NAMES && to != TO_SWITCH) {", to = "if (to != TO_LOGIN && to != TO_NAMES) {")
    @Slip(from = "if (to != TO_LOGIN && to != TO_NAMES && to != TO_SWITCH) {", to = "if (to != TO_LOGIN && to != TO_SWITCH) {")
    @Slip(from = "if (to != TO_LOGIN && to != TO_NAMES && to != TO_SWITCH) {", to = "if (to != TO_NAMES && to != TO_SWITCH) {")
    static void threeThatMeanTheSwitch(Due due) {
        for (int to = 0xFFFFFA; to <= 0xFFFFFF; to++) {
            boolean one = to >= 0xFFFFFC && to <= 0xFFFFFE;
            Scene.Spot spot = Scene.login();
            spot.become(due, 7, to, Scene.home(0), 0);
            due.is("TO " + Integer.toHexString(to) + " at a node's port", Scene.fate(due, spot), one ? 0 : 2);
            Scene.Spot between = Scene.loginBetween();
            between.become(due, 7, to, 0x010701, 0);
            due.is("TO " + Integer.toHexString(to) + " at a switch's port", Scene.fate(due, between), one ? 0 : 3);
        }
    }
}
