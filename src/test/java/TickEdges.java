/** What goes on in a tick: arrivals, turns of ports, frames that go on, stay, or are gone, and the turns of nodes. */
final class TickEdges {
    private TickEdges() {
    }

    @Sentence("==== A TICK: TIME grows by 1. Then:")
    @Slip(from = "shared.time++;", to = "shared.time += 1 + shared.time / 300;")
    @Slip(from = "for (int i = 0; i < n; i++) {\n            shared.time++;", to = "for (int i = 0; i <= n; i++) {\n            shared.time++;")
    static void timeGrowsByOne(Due due) {
        ZonedFabric x = Scene.star(2, 2);
        int time = 0;
        for (int n : new int[] {0, 1, 2, 299, 300, 1, 0}) {
            x.tick(n);
            time += n;
            due.is("TIME after " + n + " ticks", x.count(0), time);
        }
    }

    @Sentence("(1) All frames on the way arrive, credits come (all of the tick before).")
    @Slip(from = "for (int w = 0; w < wires; w++) {", to = "for (int w = 0; w < wires - 1; w++) {")
    @Slip(from = "for (int w = 0; w < wires; w++) {", to = "for (int w = 1; w < wires; w++) {")
    @Slip(from = "arrived += firstEnds[w].deliver() + secondEnds[w].deliver();", to = "arrived += firstEnds[w].deliver();")
    @Slip(from = "arrived += firstEnds[w].deliver() + secondEnds[w].deliver();", to = "arrived += secondEnds[w].deliver();")
    @Slip(from = "            credits += coming;\n            coming = 0;", to = "            if (credits < 1) {\n                credits += coming;\n                coming = 0;\n            }")
    static void allFramesArrive(Due due) {
        ZonedFabric x = new ZonedFabric(5, 8, 2);
        for (int p = 0; p < 8; p++) {
            x.wire(0, p, 4, p, 1);
            x.wire(2, p, 16 + p, 0, 1);
        }
        due.is("none is on the way at first", x.tick(1), 0);
        due.is("two HELLO on each of eight wires, eight FLOGI", x.tick(1), 24);
        for (int n = 0; n < 8; n++) {
            due.is("the credit of node " + n + " is to come", x.port(16 + n, 0, 0), 1);
        }
        due.is("WELCOME and RECORD were sent in this one", x.tick(1), 0);
        for (int n = 0; n < 8; n++) {
            due.is("the credit of node " + n + " came", x.port(16 + n, 0, 0), 2);
        }
        due.is("two RECORD on each of eight wires, eight WELCOME", x.tick(1), 24);
    }

    @Sentence("(2) The switches, by their numbers; each: its TIMERS (below); then its ports from TIME mod 8 on, round:")
    @Slip(from = "serve(ports[(first + i) % PORTS]);", to = "serve(ports[i]);")
    @Slip(from = "serve(ports[(first + i) % PORTS]);", to = "serve(ports[(first + 1 + i) % PORTS]);")
    @Slip(from = "serve(ports[(first + i) % PORTS]);", to = "serve(ports[(first + PORTS - i) % PORTS]);")
    @Slip(from = "for (int s = 0; s < switches.length; s++) {\n                switches[s].turn();", to = "for (int s = 0; s < switches.length - 1; s++) {\n                switches[s].turn();")
    static void portsFromTimeOnRound(Due due) {
        int[][] pairs = {{0, 7, 3}, {2, 5, 7}, {6, 7, 0}, {0, 1, 2}, {3, 4, 5}};
        for (int[] pair : pairs) {
            for (int wait = 0; wait < 8; wait++) {
                ZonedFabric x = new ZonedFabric(5, 3, 4);
                x.disc(2);
                for (int n = 0; n < 3; n++) {
                    x.wire(4, pair[n], 16 + n, 0, 1);
                }
                x.tick(20 + wait);
                x.read(0, 2, 0, 0, 1);
                x.read(1, 2, 0, 0, 1);
                x.tick(5);
                int start = x.count(0) % 8;
                int first = start > pair[0] && start <= pair[1] ? 1 : 0;
                due.is("two LOGIN came, one goes on", x.count(7), 1);
                due.is("from " + start + " on, of " + pair[0] + " and " + pair[1], x.frame(2, 0, 4) >>> 40,
                    0x050000 | pair[first] << 8 | first + 1);
                due.is("the other one stays", x.port(4, pair[1 - first], 1), 1);
            }
        }
    }

    @Sentence("the port sends the first frame of its queue, if it can (up, a credit, nothing sent by it in this tick).")
    @Slip(from = "if (queue.first != null && canSend()) {", to = "if (queue.first != null && canSend() && credits > 1) {")
    @Slip(from = "                queue.first.seal();\n                send(queue.take());",
        to = "                queue.first.seal();\n                send(queue.take());\n                shared.release(queue.take());")
    static void firstOfTheQueue(Due due) {
        for (int room = 1; room <= 4; room += 3) {
            ZonedFabric x = Scene.row(4, room);
            x.cut(2);
            x.tick(30);
            x.join(2);
            x.tick(2);
            due.is("the records of 0 and 1", x.port(2, 1, 2), 2);
            int next = 0;
            for (int t = 0; t < 8; t++) {
                x.tick(1);
                if (Scene.kind(x, 2, 0) == 2 && next < 3) {
                    due.is("the record that is sent", x.frame(2, 0, 13) >>> 56, next);
                    due.is("in tick", t, room == 1 ? 2 * next : next);
                    next++;
                    due.is("in the queue, with its own", x.port(2, 1, 2), 3 - next);
                }
            }
            due.is("those of 0, 1 and its own", next, 3);
        }
    }

    @Sentence("Then its ports in the same order: the first frame in the buffers, if there is one (and one alone in a tick):")
    @Slip(from = "serve(ports[(first + i) % PORTS]);",
        to = "serve(ports[(first + i) % PORTS]);\n                serve(ports[(first + i) % PORTS]);")
    static void oneAloneInATick(Due due) {
        ZonedFabric x = Scene.star(3, 4);
        x.tick(10);
        x.read(0, 2, 0, 0, 1);
        x.read(1, 2, 0, 0, 1);
        x.tick(4);
        x.read(1, 2, 0, 0, 1);
        x.tick(1);
        due.is("the LOGIN of host 1 stays", x.port(0, 1, 1), 1);
        x.tick(1);
        due.is("it goes on", x.count(7), 2);
        due.is("the ASK behind it is there", x.port(0, 1, 1), 1);
        due.is("and has no answer yet", x.port(0, 1, 2), 0);
        x.tick(1);
        due.is("it is taken", x.port(0, 1, 1), 0);
        due.is("and has its answer", x.port(0, 1, 2), 1);
    }

    @Sentence("one that is not TRUE is gone (COUNT 1); TO one of the three it is TAKEN; else it is to be PASSED ON:")
    @Slip(from = "                port.drop(UNTRUE);\n", to = "                port.drop(NO_WAY);\n")
    @Slip(from = "            if (!frame.isTrue(shared)) {\n                port.drop", to = "            if (frame.to() != TO_SWITCH && !frame.isTrue(shared)) {\n                port.drop")
    static void notTrueAtASwitch(Due due) {
        int[][] frames = {{Scene.home(1), 0, 7}, {Scene.home(1), 2, 1}, {Scene.TO_SWITCH, 0, 0}, {Scene.TO_SWITCH, 2, 1},
            {Scene.TO_LOGIN, 0, 0}, {Scene.TO_LOGIN, 2, 1}, {Scene.TO_NAMES, 0, 0}, {Scene.TO_NAMES, 2, 1}};
        for (int[] f : frames) {
            Scene.Spot spot = Scene.login();
            spot.become(due, 7, f[0], Scene.home(0), f[1]);
            due.is("TO " + Integer.toHexString(f[0]) + " LOAD " + f[1], Scene.fate(due, spot), f[2]);
            due.is("it has left the buffer", spot.x.port(0, 0, 1), 0);
        }
    }

    /** What comes of a frame of that node at the switch of a star. */
    private static int atANodesPort(Due due, int to, int from) {
        Scene.Spot spot = Scene.login();
        spot.become(due, 7, to, from, 0);
        return Scene.fate(due, spot);
    }

    @Sentence("If the port is a node's: FROM must be the address that was given to that node at this port,")
    @Slip(from = "|| from != port.given\n", to = "\n")
    @Slip(from = "|| from != port.given\n", to = "|| (from & 255) != port.nodeThere() + 1\n")
    @Slip(from = "|| from != port.given\n", to = "|| from > port.given\n")
    @Slip(from = "|| from != port.given\n", to = "|| from < port.given\n")
    @Slip(from = "(port.given == 0 || from != port.given\n", to = "(from != port.given\n")
    static void fromIsTheAddressThatWasGiven(Due due) {
        due.is("as it was given", atANodesPort(due, Scene.home(1), 0x010001), 7);
        for (int from : new int[] {0, 1, 0x000001, 0x010000, 0x010002, 0x010101, 0x010102, 0x020001, 0x810001, 0x018001, 0xFFFFFE}) {
            due.is("FROM " + Integer.toHexString(from), atANodesPort(due, Scene.home(1), from), 2);
        }
        // the switch took the address back, which the host has not heard yet
        Scene.Spot spot = Scene.login();
        spot.x.domain(0, 9);
        due.is("an address that was taken back", Scene.fate(due, spot), 2);
        // the first FLOGI, FROM 0, comes as another frame: none was given to that node
        for (int to : new int[] {Scene.home(1), 0x050102}) {
            Scene.Spot first = new Scene.Spot(Scene.star(2, 2), 0, 1);
            first.x.tick(1);
            first.become(due, 7, to, 0, 0);
            due.is("FROM 0, where none was given", Scene.fate(due, first), 2);
        }
    }

    @Sentence("and TO's node (there must be one) be in a common zone with it: else it is gone (COUNT 2).")
    @Slip(from = "if (!isNode(one) || !isNode(other)) {", to = "if (!isNode(one)) {")
    @Slip(from = "if (!isNode(one) || !isNode(other)) {", to = "if (!isNode(one) || other < 0 || other > nodeCount) {")
    @Slip(from = "                    || !shared.inCommonZone(port.nodeThere(), toNode))) {", to = "                    )) {")
    static void toANodeInACommonZone(Due due) {
        due.is("the disc", atANodesPort(due, 0x010102, Scene.home(0)), 7);
        due.is("the host itself", atANodesPort(due, 0x010001, Scene.home(0)), 7);
        for (int last : new int[] {0, 3, 9, 255}) {
            due.is("TO's node " + (last - 1), atANodesPort(due, 0x010100 | last, Scene.home(0)), 2);
        }
        // the disc is at another switch: the zone is looked at where the frame comes from its node
        for (int zones = 0; zones < 4; zones++) {
            ZonedFabric x = Scene.far(2);
            x.tick(20);
            x.read(0, 1, 0, 0, 1);
            x.tick(4);
            due.is("LOGIN", Scene.kind(x, 1, 1), 7);
            x.zone(3, 0, (zones & 1) == 1);
            x.zone(3, 1, (zones & 2) == 2);
            x.zoning(true);
            due.is("zones " + zones, Scene.fate(due, new Scene.Spot(x, 1, 1)), zones == 3 ? 7 : 2);
        }
    }

    @Sentence("Then, if TO's domain is the switch's own (and it is not OFF):")
    @Slip(from = "if (to >> 16 != domainNow || off) {", to = "if (to >> 16 != domainNow) {")
    @Slip(from = "if (to >> 16 != domainNow || off) {", to = "if (to >> 16 > domainNow || off) {")
    static void domainOfASwitchThatIsOff(Due due) {
        // 1 has the domain of 0 and is OFF; host 0 at 2 wants disc 1 at 0
        ZonedFabric x = Scene.row(3, 2);
        x.disc(1);
        x.wire(2, 7, 16, 0, 1);
        x.wire(0, 7, 17, 0, 1);
        x.domain(1, 1);
        x.tick(60);
        due.is("1 is OFF", x.way(1, 1), 0);
        int c = x.read(0, 1, 0, 0, 1);
        x.tick(60);
        due.is("what is for its domain goes on to 0", x.status(c), 10);
        x.cut(0);
        x.tick(10);
        due.is("1 is OFF no more", x.way(1, 1), 8);
        Scene.Spot spot = Scene.loginBetween();
        spot.become(due, 7, 0x010002, 0x010701, 0);
        due.is("a domain below its own", Scene.fate(due, spot), 7);
    }

    @Sentence("TO's port, which must be up and that node's (else it is gone, COUNT 3),")
    @Slip(from = "if (p >= PORTS || !ports[p].up || toNode < 0 || ports[p].nodeThere() != toNode) {",
        to = "if (p >= PORTS || !ports[p].up || toNode < 0) {")
    @Slip(from = "if (p >= PORTS || !ports[p].up || toNode < 0 || ports[p].nodeThere() != toNode) {",
        to = "if (p >= PORTS || toNode < 0 || ports[p].nodeThere() != toNode) {")
    @Slip(from = "int p = to >> 8 & 255;", to = "int p = to >> 8 & 7;")
    @Slip(from = "int p = to >> 8 & 255;\n            if (p >= PORTS", to = "int p = to >> 8 & 255;\n            if (p > PORTS")
    @Slip(from = "!ports[p].up || toNode < 0 || ports", to = "!ports[p].up || ports")
    static void portOfTheNode(Due due) {
        due.is("the disc's port", atANodesPort(due, 0x010102, Scene.home(0)), 7);
        for (int p : new int[] {0, 2, 7, 8, 9, 129, 255}) {
            due.is("port " + p, atANodesPort(due, 0x010002 | p << 8, Scene.home(0)), 3);
        }
        Scene.Spot spot = Scene.login();
        spot.x.cut(1);
        due.is("the disc's port, while its wire is cut", Scene.fate(due, spot), 3);
        for (int to : new int[] {0x020702, 0x020701, 0x020700, 0x020002, 0x020000, 0x020602}) {
            Scene.Spot between = Scene.loginBetween();
            between.become(due, 7, to, 0x010701, 0);
            due.is("TO " + Integer.toHexString(to) + " at the last switch", Scene.fate(due, between), to == 0x020702 ? 7 : 3);
        }
    }

    @Sentence("and the nodes of FROM and TO in a common zone (else COUNT 2);")
    @Slip(from = "return shared.inCommonZone((from & 255) - 1, toNode) ? p : -NOT_ALLOWED;", to = "return p;")
    @Slip(from = "return shared.inCommonZone((from & 255) - 1, toNode) ? p : -NOT_ALLOWED;",
        to = "return shared.inCommonZone((from & 255) - 1, toNode) ? p : -NO_WAY;")
    @Slip(from = "return shared.inCommonZone((from & 255) - 1, toNode) ? p : -NOT_ALLOWED;",
        to = "return shared.inCommonZone(from & 255, toNode) ? p : -NOT_ALLOWED;")
    static void zoneAtTheLastSwitch(Due due) {
        for (int zones = 0; zones < 4; zones++) {
            Scene.Spot spot = Scene.loginBetween();
            spot.x.zone(7, 0, (zones & 1) == 1);
            spot.x.zone(7, 1, (zones & 2) == 2);
            spot.x.zoning(true);
            due.is("zones " + zones, Scene.fate(due, spot), zones == 3 ? 7 : 2);
        }
        for (int last : new int[] {0, 1, 2, 3, 255}) {
            Scene.Spot spot = Scene.loginBetween();
            spot.become(due, 7, 0x020702, 0x010700 | last, 0);
            due.is("FROM's node " + (last - 1), Scene.fate(due, spot), last == 1 || last == 2 ? 7 : 2);
        }
        Scene.Spot spot = Scene.loginBetween();
        spot.become(due, 7, 0x020602, 0x010700, 0);
        due.is("first the port, then the zone", Scene.fate(due, spot), 3);
    }

    @Sentence("otherwise the port by the WAY to that domain; if there is none, it is gone (COUNT 3).")
    @Slip(from = "return way == NONE ? -NO_WAY : way;", to = "return way == NONE ? -NOT_ALLOWED : way;")
    @Slip(from = "int holder = domain >= 0 && domain < holders.length ? holders[domain] : NONE;",
        to = "int holder = holders[Math.min(domain, LAST_DOMAIN)];")
    @Slip(from = "return holder == NONE ? NONE : ways[holder];", to = "return holder == NONE ? 1 : ways[holder];")
    static void byTheWay(Due due) {
        for (int domain : new int[] {0, 1, 2, 3, 14, 15, 16, 18, 255}) {
            ZonedFabric x = Scene.far(2);
            x.domain(1, 15);
            x.tick(20);
            x.read(0, 1, 0, 0, 1);
            x.tick(4);
            Scene.Spot spot = new Scene.Spot(x, 1, 1);
            spot.become(due, 7, domain << 16 | 0x0702, 0x010701, 0);
            due.is("domain " + domain, Scene.fate(due, spot), domain == 15 ? 7 : 3);
            due.is("by the wire between the switches", Scene.kind(x, 0, 0), domain == 15 ? 7 : 0);
        }
    }

    @Sentence("If that port can send (and its queue is empty), it goes on there, in this tick; else it stays;")
    @Slip(from = "if (out.queue.size == 0 && out.canSend()) {", to = "if (out.canSend()) {")
    @Slip(from = "            } else {\n                port.stay();", to = "            } else {\n                port.drop(STAYED);")
    static void goesOnInThisTick(Due due) {
        Scene.Spot spot = Scene.login();
        due.is("LOGIN is passed on in the tick in which it comes", Scene.fate(due, spot), 7);
        due.is("and on the way to the disc", Scene.kind(spot.x, 1, 0), 7);
        // ASK at port 0 and DATA at port 2 come in one tick: TOLD is in the queue first where port 0 is ahead
        int stayed = 0;
        for (int wait = 0; wait < 8; wait++) {
            ZonedFabric x = Scene.star(3, 4);
            x.tick(20 + wait);
            x.read(0, 2, 0, 0, 4);
            x.tick(9);
            x.read(0, 2, 0, 0, 1);
            x.tick(1);
            due.is("ASK", Scene.kind(x, 0, 1), 5);
            due.is("DATA", Scene.kind(x, 2, 1), 11);
            x.tick(1);
            int start = x.count(0) % 8;
            boolean first = start == 0 || start > 2;
            due.is("TOLD is in the queue", x.port(0, 0, 2), 1);
            due.is("DATA goes on, from port " + start + " on", Scene.kind(x, 0, 0), first ? 0 : 11);
            due.is("or stays", x.port(0, 2, 1), first ? 1 : 0);
            stayed += first ? 1 : 0;
            due.is("none is gone", x.count(4), 0);
        }
        due.is("how often port 0 is ahead", stayed, 6);
    }

    /** Host 0 at port 2 has its way ahead of host 1 at port 3, as the disc's port 0 can send in even ticks alone. */
    private static ZonedFabric crowd(int wait) {
        ZonedFabric x = new ZonedFabric(1, 3, 1);
        x.disc(2);
        x.wire(0, 0, 18, 0, 1);
        x.wire(0, 2, 16, 0, 1);
        x.wire(0, 3, 17, 0, 1);
        x.tick(10);
        for (int i = 0; i < 4; i++) {
            x.write(0, 2, 0, 0, 4, 1L);
        }
        x.tick(wait);
        x.read(1, 2, 0, 0, 1);
        x.tick(4);
        return x;
    }

    @Sentence("a frame that has stayed in 25 ticks in a row as the first of its buffers is gone in the 25th (COUNT 4).")
    @Slip(from = "int MOST_STAYS = 25;", to = "int MOST_STAYS = 24;")
    @Slip(from = "int MOST_STAYS = 25;", to = "int MOST_STAYS = 26;")
    @Slip(from = "            stays = 0;\n            if (peer", to = "            if (peer")
    @Slip(from = "drop(STAYED);", to = "drop(NO_WAY);")
    static void staysIn25Ticks(Due due) {
        for (int wait = 28; wait <= 29; wait++) {
            ZonedFabric x = crowd(wait);
            due.is("LOGIN of host 1", Scene.kind(x, 2, 1), 7);
            for (int t = 1; t <= 24; t++) {
                x.tick(1);
                due.is("it stays in tick " + t, x.port(0, 3, 1), 1);
            }
            due.is("none is gone in the 24th", x.count(4), 0);
            x.tick(1);
            due.is("it is there no more", x.port(0, 3, 1), 0);
            boolean gone = wait == 28;
            due.is("it had no turn till the 25th", x.count(4), gone ? 1 : 0);
            due.is("it goes on in the 25th", x.frame(0, 0, 4) >>> 40, gone ? 0 : 0x010302);
            due.is("its credit is to come", x.port(17, 0, 0), 0);
            due.is("so the LOGIN that is sent again waits", x.port(17, 0, 2) * 10 + Scene.kind(x, 2, 1), 10);
            x.tick(1);
            due.is("its credit came", x.port(17, 0, 2) * 10 + Scene.kind(x, 2, 1), 7);
        }
        ZonedFabric x = crowd(5);
        x.tick(25);
        due.is("one is gone", x.count(4), 1);
        x.tick(40);
        due.is("the next one, that comes behind it, has ticks of its own", x.count(4), 1);
        due.is("and its host is served", x.status(4), 10);
    }

    @Sentence("(3) The nodes, by their numbers: all frames in the buffers, in order, leave them:")
    @Slip(from = "for (int left = port.buffers.size; left > 0; left--) {", to = "for (int left = port.buffers.size; left > 1; left--) {")
    @Slip(from = "for (int k = 0; k < nodes.length; k++) {", to = "for (int k = 0; k < nodes.length - 1; k++) {")
    static void nodesKeepNoFrames(Due due) {
        ZonedFabric x = Scene.star(2, 1);
        x.tick(10);
        due.is("address of the last node", x.address(1), Scene.home(1));
        x.read(0, 1, 0, 0, 4);
        for (int t = 0; t < 40; t++) {
            x.tick(1);
            due.is("the host's buffers", x.port(16, 0, 1), 0);
            due.is("the disc's buffers", x.port(17, 0, 1), 0);
        }
        due.is("the READ", x.status(0), 10);
    }

    @Sentence("of those that are TRUE (else COUNT 1)")
    @Slip(from = "                    shared.tally(UNTRUE);", to = "                    shared.tally(NOT_ALLOWED);")
    @Slip(from = "                if (!frame.isTrue(shared)) {\n                    shared", to = "                if (frame.kind() != WELCOME && !frame.isTrue(shared)) {\n                    shared")
    static void notTrueAtANode(Due due) {
        ZonedFabric x = Scene.star(2, 2);
        x.tick(3);
        due.yes("a bit of WELCOME's CHECK", x.flip(0, 0, 8 * 16));
        x.tick(1);
        due.is("COUNT 1", x.count(1), 1);
        due.is("no address", x.address(0), 0);
        due.is("the other one's WELCOME was TRUE", x.address(1), Scene.home(1));
    }

    @Sentence("WELCOME FROM FFFFFE, whatever its TO,")
    @Slip(from = "frame.kind() == WELCOME && frame.from() == TO_LOGIN) {", to = "frame.kind() == WELCOME) {")
    @Slip(from = "frame.kind() == WELCOME && frame.from() == TO_LOGIN) {", to = "frame.kind() == WELCOME && frame.from() >= TO_SWITCH) {")
    @Slip(from = "frame.kind() == WELCOME && frame.from() == TO_LOGIN) {",
        to = "frame.kind() == WELCOME && frame.from() == TO_LOGIN && (frame.to() & 255) <= shared.nodeCount) {")
    static void welcomeWhateverItsTo(Due due) {
        int[][] frames = {{0x010001, Scene.TO_LOGIN, 0x010001}, {0x010102, Scene.TO_LOGIN, 0x010102},
            {0xFFFFFF, Scene.TO_LOGIN, 0xFFFFFF}, {0, Scene.TO_LOGIN, 0}, {0x010001, Scene.TO_SWITCH, 0},
            {0x010001, Scene.TO_NAMES, 0}, {0x010001, 0xFFFFFF, 0}, {0x010001, 0, 0}};
        for (int[] f : frames) {
            ZonedFabric x = Scene.star(2, 2);
            x.tick(3);
            due.become(x, 0, 0, FabricModel.make(4, f[0], f[1], 0, 0, 0));
            x.tick(1);
            due.is("WELCOME TO " + Integer.toHexString(f[0]) + " FROM " + Integer.toHexString(f[1]), x.address(0), f[2]);
            due.is("it was TRUE", x.count(1), 0);
        }
    }

    @Sentence("and, if it has an address, those TO it are TAKEN (all others are gone);")
    @Slip(from = "} else if (address != 0 && frame.to() == address) {", to = "} else if (frame.to() == address) {")
    @Slip(from = "} else if (address != 0 && frame.to() == address) {", to = "} else if (address != 0) {")
    @Slip(from = "} else if (address != 0 && frame.to() == address) {", to = "} else if (address != 0 && (frame.to() & 255) == (address & 255)) {")
    static void takenWithAnAddress(Due due) {
        // a LOGGED in the place of WELCOME: a host that took it is logged in, and asks for no LOGIN
        int[][] frames = {{3, 0, 1}, {93, 0, 1}, {93, Scene.home(0), 2}, {93, Scene.home(1), 1}, {93, 0x020001, 1}, {93, 0x010101, 1}};
        for (int[] f : frames) {
            ZonedFabric x = Scene.star(2, 2);
            x.tick(f[0]);
            due.is("WELCOME", Scene.kind(x, 0, 0), 4);
            due.become(x, 0, 0, FabricModel.make(8, f[1], Scene.home(1), 0, 0, 0));
            x.tick(40);
            due.is("address", x.address(0), Scene.home(0));
            int c = x.read(0, 1, 0, 0, 1);
            x.tick(4);
            due.is("LOGGED at " + f[0] + " TO " + Integer.toHexString(f[1]), x.status(c), f[2]);
            due.is("none is counted", x.count(1) + x.count(2) + x.count(3), 0);
        }
    }

    @Sentence("then its TIMERS; then it sends the first frame of its queue, if it can.")
    @Slip(from = {"            callSwitch();\n            if (host", "            port.sendFirst();\n        }\n\n        private void takeAddress"},
        to = {"            port.sendFirst();\n            callSwitch();\n            if (host", "        }\n\n        private void takeAddress"})
    static void nodesSendBehindTheirTimers(Due due) {
        ZonedFabric x = Scene.star(2, 2);
        x.tick(1);
        due.is("FLOGI in the first tick", Scene.kind(x, 0, 1), 3);
        due.is("none is left in the queue", x.port(16, 0, 2), 0);
        x.tick(9);
        x.read(0, 1, 0, 0, 1);
        x.tick(4);
        due.is("LOGIN in the tick in which TOLD came", Scene.kind(x, 0, 1), 7);
    }
}
