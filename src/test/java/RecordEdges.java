/** HELLO and RECORD: who tells what to whom, how often, and how long it is kept. */
final class RecordEdges {
    private RecordEdges() {
    }

    @Sentence("==== SWITCHES KINDS 1 HELLO, 2 RECORD: TO and FROM FFFFFD.")
    @Slip(from = "shared.draft(RECORD, TO_SWITCH, TO_SWITCH, 0)", to = "shared.draft(RECORD, TO_SWITCH, 0, 0)")
    @Slip(from = "shared.draft(HELLO, TO_SWITCH, TO_SWITCH, 0)", to = "shared.draft(HELLO, TO_SWITCH, 0, 0)")
    static void kindsOfSwitches(Due due) {
        ZonedFabric x = Scene.row(2, 2);
        x.tick(1);
        for (int s = 0; s < 2; s++) {
            due.frame("HELLO", x, 0, s, FabricModel.make(1, Scene.TO_SWITCH, Scene.TO_SWITCH, 0, 0, 0, s));
        }
        x.tick(2);
        for (int s = 0; s < 2; s++) {
            due.frame("RECORD", x, 0, s, FabricModel.make(2, Scene.TO_SWITCH, Scene.TO_SWITCH, 0, 0, 0,
                s, 0, 0, 2, s + 1, 1, 1 - s, 1 - s, 1, 0));
        }
    }

    @Sentence("A RECORD tells a switch: LOAD: its number, its ISSUE (three bytes), domain, how many neighbours, each: port, switch, "
        + "cost; how many nodes, each: node, port (both by rising ports; nodes with an address alone).")
    @Slip(from = "int LOAD_ROOM = 31;", to = "int LOAD_ROOM = 30;")
    @Slip(from = "            draft.add(neighbours);\n            for (int p = 0; p < PORTS; p++) {\n                if (ports[p].neighbour != NONE) {\n                    draft.add(p);",
        to = "            draft.add(neighbours);\n            for (int p = 0; p < PORTS; p++) {\n                if (ports[p].neighbour != NONE) {\n                    draft.add(p == 7 ? 6 : p);")
    @Slip(from = "            draft.add(nodes);\n            for (int p = 0; p < PORTS; p++) {", to = "            draft.add(nodes);\n            for (int p = PORTS - 1; p >= 0; p--) {")
    @Slip(from = "nodes += ports[p].given != 0 ? 1 : 0;", to = "nodes += ports[p].isToNode() ? 1 : 0;")
    @Slip(from = "load[1] = (byte) (issue >> 16);", to = "load[1] = 1;")
    @Slip(from = "load[2] = (byte) (issue >> 8);", to = "load[2] = 0;")
    @Slip(from = "load[2] = (byte) (issue >> 8);", to = "load[2] = (byte) (issue >> 7);")
    static void loadOfARecord(Due due) {
        ZonedFabric x = new ZonedFabric(2, 8, 2);
        for (int p = 0; p < 8; p++) {
            x.wire(0, 7 - p, 1, p, 1 + p);
        }
        x.tick(3);
        due.frame("eight neighbours", x, 7, 0, FabricModel.make(2, Scene.TO_SWITCH, Scene.TO_SWITCH, 0, 0, 0,
            0, 0, 0, 2, 1, 8, 0, 1, 8, 1, 1, 7, 2, 1, 6, 3, 1, 5, 4, 1, 4, 5, 1, 3, 6, 1, 2, 7, 1, 1, 0));
        x.tick(1);
        due.is("neighbours as the other one keeps them", x.record(1, 0, 2), 8);
        due.is("nodes as the other one keeps them", x.record(1, 0, 3), 0);
        ZonedFabric y = new ZonedFabric(2, 8, 2);
        y.domain(1, 15);
        y.wire(1, 3, 0, 7, 9);
        int[] ports = {7, 0, 1, 2, 4, 5, 6};
        for (int n = 1; n < 8; n++) {
            y.wire(1, ports[n - 1], 16 + n, 0, 1);
        }
        y.tick(1);
        due.yes("the FLOGI of node 4 is gone", y.flip(4, 1, 0));
        y.tick(2);
        due.frame("six nodes of seven", y, 0, 0, FabricModel.make(2, Scene.TO_SWITCH, Scene.TO_SWITCH, 0, 0, 0,
            1, 0, 0, 2, 15, 1, 3, 0, 9, 6, 2, 0, 3, 1, 5, 4, 6, 5, 7, 6, 1, 7));
        y.tick(35);
        due.is("seven nodes", y.record(0, 1, 3), 7);
        for (int i = 0; i < 34; i++) {
            y.tick(300);
        }
        // issued at 1, 3 and 33, and in every 40th tick since, till 10238
        due.is("an issue of more than a byte", y.record(1, 1, 0), 258);
        due.is("as the other one keeps it", y.record(0, 1, 0), 258);
    }

    @Sentence("A port to a switch has a NEIGHBOUR, when a HELLO came there (LOAD: the number of its switch).")
    @Slip(from = "port.neighbour = hello.load(0);", to = "port.neighbour = port.peer == null ? NONE : port.peer.owner;")
    @Slip(from = "            port.neighbour = hello.load(0);\n            for", to = "            for")
    static void neighbour(Due due) {
        ZonedFabric x = new ZonedFabric(5, 1, 2);
        x.wire(0, 0, 4, 7, 1);
        x.tick(1);
        due.is("none while HELLO is on the way", x.port(4, 7, 3), -1);
        due.become(x, 0, 1, FabricModel.make(1, Scene.TO_SWITCH, Scene.TO_SWITCH, 0, 0, 0, 2));
        x.tick(1);
        due.is("switch 0, the lowest", x.port(4, 7, 3), 0);
        due.is("the one that HELLO names", x.port(0, 0, 3), 2);
    }

    /** Switch 1's RECORD to switch 0 at TIME 43, whose issue is 3, in a fabric of three switches; that of 2 is not kept. */
    private static Scene.Spot thirdIssue() {
        ZonedFabric x = new ZonedFabric(3, 1, 4);
        x.wire(0, 0, 1, 0, 1);
        x.tick(43);
        return new Scene.Spot(x, 0, 1);
    }

    /** What switch 0 keeps of a switch when a RECORD of it comes with that issue and the domain 7: its domain. */
    private static int kept(Due due, int of, int issue) {
        Scene.Spot spot = thirdIssue();
        spot.become(due, 2, Scene.TO_SWITCH, Scene.TO_SWITCH, of, issue >> 16, issue >> 8 & 255, issue & 255, 7, 1, 0, 0, 1, 0);
        spot.x.tick(1);
        due.is("it was TRUE", spot.x.count(1), 0);
        if (spot.x.record(0, of, 1) == 7) {
            due.is("its issue", spot.x.record(0, of, 0), issue);
            due.is("when it was kept", spot.x.record(0, of, 4), 44);
        }
        return spot.x.record(0, of, 1);
    }

    @Sentence("Each switch KEEPS one of each switch, with the greatest issue that came, and its own.")
    @Slip(from = "issue <= notices[of].issue()", to = "issue < notices[of].issue() - 1")
    @Slip(from = "            for (int i = 0; i < frame.length - HEADER - CHECK; i++) {\n                notice.add(frame.load(i));", to = "            for (int i = 0; i < frame.length - HEADER - CHECK; i++) {\n                notice.add(i == 3 ? 1 : frame.load(i));")
    @Slip(from = "            notices[number] = draft;\n            draft = own;", to = "            Notice old = notices[0];\n            notices[0] = draft;\n            draft = old;")
    static void oneOfEachSwitch(Due due) {
        ZonedFabric x = Scene.row(5, 2);
        x.tick(40);
        for (int s = 0; s < 5; s++) {
            for (int r = 0; r < 5; r++) {
                due.is("the domain that " + s + " keeps of " + r, x.record(s, r, 1), r + 1);
                due.is("the issue that " + s + " keeps of " + r, x.record(s, r, 0), 2);
            }
        }
        // a RECORD of the switch at the other end, with issues 1 and 2 behind 3
        Scene.Spot spot = thirdIssue();
        spot.x.tick(1);
        due.is("issue 3 came", spot.x.record(0, 1, 0), 3);
        for (int issue = 1; issue <= 2; issue++) {
            spot.x.tick(39);
            spot.become(due, 2, Scene.TO_SWITCH, Scene.TO_SWITCH, 1, 0, 0, issue, 7, 1, 0, 0, 1, 0);
            spot.x.tick(1);
            due.is("issue " + issue + " came behind it", spot.x.record(0, 1, 0), 3);
            due.is("its domain", spot.x.record(0, 1, 1), 2);
        }
        due.is("its own", spot.x.record(0, 0, 0), 5);
    }

    @Sentence("A RECORD that comes with an issue greater than the one kept (0 if none is; of another switch than itself) is kept,")
    @Slip(from = "issue <= notices[of].issue()", to = "issue < notices[of].issue()")
    @Slip(from = "issue <= notices[of].issue()", to = "issue <= notices[of].issue() + 1")
    @Slip(from = "|| of == number || issue", to = "|| issue")
    @Slip(from = "issue <= notices[of].issue()", to = "notices[of].isKept() && issue <= notices[of].issue()")
    @Slip(from = "int issue = (int) frame.number(HEADER + 1, 3);", to = "int issue = (int) frame.number(HEADER + 2, 2);")
    @Slip(from = "of >= notices.length || of == number", to = "of >= notices.length - 1 || of == number")
    static void greaterIssues(Due due) {
        due.is("issue 1 of one whose issue 2 is kept", kept(due, 1, 1), 2);
        due.is("issue 2 of one whose issue 2 is kept", kept(due, 1, 2), 2);
        due.is("issue 3 of one whose issue 2 is kept", kept(due, 1, 3), 7);
        due.is("issue 0 of one whose issue 2 is kept", kept(due, 1, 0), 2);
        due.is("the greatest issue", kept(due, 1, 0xFFFFFF), 7);
        due.is("issue 0 of one that is not kept", kept(due, 2, 0), -1);
        due.is("issue 1 of one that is not kept", kept(due, 2, 1), 7);
        due.is("issue 256 of one that is not kept", kept(due, 2, 256), 7);
        due.is("issue 65536 of one that is not kept", kept(due, 2, 65536), 7);
        due.is("a great issue of itself", kept(due, 0, 999), 1);
    }

    @Sentence("When what its own would tell has changed, or in the 40th tick since it was issued, it ISSUES it anew,")
    @Slip(from = "int RECORD_PAUSE = 40;", to = "int RECORD_PAUSE = 39;")
    @Slip(from = "int RECORD_PAUSE = 40;", to = "int RECORD_PAUSE = 41;")
    @Slip(from = "own.isKept() && own.tellsSameAs(draft) &&", to = "own.isKept() &&")
    @Slip(from = "for (int i = 4; i < size; i++) {\n                if (load[i] != other", to = "for (int i = 5; i < size; i++) {\n                if (load[i] != other")
    @Slip(from = "draft.keptAt = shared.time;", to = "draft.keptAt = own.keptAt == 0 || own.size != draft.size ? shared.time : own.keptAt + 40;")
    static void issuedInThe40thTick(Due due) {
        ZonedFabric x = Scene.row(2, 2);
        x.tick(3);
        due.is("the neighbour came: issue 2", x.record(0, 0, 0), 2);
        x.tick(39);
        due.is("in the 39th tick since", x.record(0, 0, 0), 2);
        x.tick(1);
        due.is("in the 40th", x.record(0, 0, 0), 3);
        due.is("at TIME", x.record(0, 0, 4), 43);
        x.tick(20);
        x.domain(0, 9);
        x.tick(1);
        due.is("the domain has changed", x.record(0, 0, 0), 4);
        x.tick(39);
        due.is("in the 39th tick since", x.record(0, 0, 0), 4);
        x.tick(1);
        due.is("in the 40th", x.record(0, 0, 0), 5);
        due.is("at TIME", x.record(0, 0, 4), 104);
        x.domain(0, 8);
        x.domain(0, 9);
        x.tick(1);
        due.is("it has not changed where the tick finds it", x.record(0, 0, 0), 5);
        x.wire(0, 5, 16, 0, 1);
        x.tick(2);
        due.is("a node without an address changes nothing", x.record(0, 0, 0), 5);
        x.tick(1);
        due.is("a node with an address", x.record(0, 0, 0), 6);
        x.cut(1);
        x.tick(1);
        due.is("no node", x.record(0, 0, 0), 7);
        x.cut(0);
        x.tick(1);
        due.is("no neighbour", x.record(0, 0, 0), 8);
        due.is("issued, also by the other one", x.count(8), 8 + x.record(1, 1, 0));
    }

    @Sentence("with the next number (1 first; ahead of any, when TIME is 1),")
    @Slip(from = "draft.setIssue(own.issue() + 1);", to = "draft.setIssue(own.issue() + 2);")
    @Slip(from = "draft.setIssue(own.issue() + 1);", to = "draft.setIssue(own.issue());")
    @Slip(from = "if (own.isKept() && own.tellsSameAs(draft)", to = "if (shared.time < 2 || own.isKept() && own.tellsSameAs(draft)")
    static void firstIssue(Due due) {
        ZonedFabric x = Scene.row(5, 2);
        for (int s = 0; s < 5; s++) {
            due.is("none at TIME 0", x.record(s, s, 0), -1);
        }
        due.is("none issued", x.count(8), 0);
        x.tick(1);
        for (int s = 0; s < 5; s++) {
            due.is("issue 1 at TIME 1", x.record(s, s, 0), 1);
            due.is("without neighbours", x.record(s, s, 2), 0);
            due.is("kept at TIME 1", x.record(s, s, 4), 1);
        }
        due.is("five issued", x.count(8), 5);
        x.tick(2);
        due.is("issue 2", x.record(4, 4, 0), 2);
    }

    @Sentence("and puts it to the queues of all ports that have a neighbour (by rising ports).")
    @Slip(from = "if (p != camePort && ports[p].neighbour != NONE) {", to = "if (p != camePort && ports[p].isToSwitch()) {")
    @Slip(from = "if (p != camePort && ports[p].neighbour != NONE) {", to = "if (p != camePort && p < 7 && ports[p].neighbour != NONE) {")
    @Slip(from = "if (p != camePort && ports[p].neighbour != NONE) {", to = "if (p != camePort && p > 0 && ports[p].neighbour != NONE) {")
    static void toAllNeighbours(Due due) {
        ZonedFabric x = new ZonedFabric(4, 1, 4);
        x.wire(0, 0, 1, 0, 1);
        x.wire(0, 7, 2, 0, 1);
        x.wire(0, 3, 3, 0, 1);
        x.wire(0, 4, 16, 0, 1);
        for (int t = 0; t < 30; t++) {
            x.tick(1);
            x.flip(2, 1, 0);
        }
        due.is("3's HELLO never came", x.port(0, 3, 3), -1);
        x.domain(0, 9);
        x.tick(1);
        due.is("to port 0", Scene.kind(x, 0, 0), 2);
        due.is("to port 7", Scene.kind(x, 1, 0), 2);
        due.is("not to port 3, which has none", Scene.kind(x, 2, 0), 0);
        due.is("not to the node", Scene.kind(x, 3, 0), 4);
    }

    @Sentence("and a new frame with the same LOAD goes to the queues of all ports with a neighbour but that by which it came.")
    @Slip(from = "spread(notice, port.number);", to = "spread(notice, NONE);")
    @Slip(from = "            findWays();\n            spread(notice, port.number);", to = "            findWays();\n            spread(notices[number], port.number);")
    @Slip(from = "            findWays();\n            spread(notice, port.number);", to = "            findWays();")
    @Slip(from = "for (int i = 0; i < frame.length - HEADER - CHECK; i++) {\n                notice", to = "for (int i = 0; i < frame.length - HEADER - CHECK - 1; i++) {\n                notice")
    static void recordGoesOn(Due due) {
        ZonedFabric x = Scene.row(3, 4);
        x.tick(43);
        int[] load = {0, 99, 0, 3, 7, 1, 6, 2, 5, 0};
        due.become(x, 0, 0, FabricModel.make(2, Scene.TO_SWITCH, 0x123456, 5, 6, 7, load));
        x.tick(1);
        due.is("kept", x.record(1, 0, 1), 7);
        x.tick(1);
        due.frame("it goes on with the same LOAD", x, 1, 0, FabricModel.make(2, Scene.TO_SWITCH, Scene.TO_SWITCH, 0, 0, 0, load));
        due.is("back goes that of 2 alone", x.frame(0, 1, 13) >>> 56, 2);
        x.tick(1);
        due.is("2 keeps it", x.record(2, 0, 0), 99 << 16 | 3);
        due.is("none more goes back", Scene.kind(x, 0, 1), 0);
        ZonedFabric y = Scene.row(3, 4);
        y.tick(43);
        due.become(y, 0, 0, FabricModel.make(2, Scene.TO_SWITCH, Scene.TO_SWITCH, 0, 0, 0, 0, 0, 0, 2, 7, 1, 6, 2, 5, 0));
        y.tick(2);
        due.is("one that is not kept does not go on", Scene.kind(y, 1, 0), 0);
    }

    @Sentence("A record that was kept 150 ticks ago, or earlier, is kept no more.")
    @Slip(from = "int RECORD_LIFE = 150;", to = "int RECORD_LIFE = 149;")
    @Slip(from = "int RECORD_LIFE = 150;", to = "int RECORD_LIFE = 151;")
    @Slip(from = "                    notice.clear();\n                    forgot = true;", to = "                    notice.size = 4;\n                    forgot = true;")
    @Slip(from = "            if (forgot) {\n                findWays();\n            }\n", to = "")
    @Slip(from = "for (int r = 0; r < notices.length; r++) {\n                Notice notice", to = "for (int r = 1; r < notices.length; r++) {\n                Notice notice")
    @Slip(from = "for (int r = 0; r < notices.length; r++) {\n                Notice notice", to = "for (int r = 0; r < notices.length - 1; r++) {\n                Notice notice")
    static void keptFor150Ticks(Due due) {
        ZonedFabric x = Scene.row(3, 2);
        x.tick(30);
        int kept = x.record(0, 2, 4);
        x.cut(1);
        x.tick(kept + 149 - x.count(0));
        due.is("149 ticks later", x.record(0, 2, 4), kept);
        x.tick(1);
        due.is("150 ticks later", x.record(0, 2, 4), -1);
        due.is("its issue", x.record(0, 2, 0), -1);
        due.yes("that of 1, which came anew, is kept", x.record(0, 1, 4) > kept);
        x.join(1);
        x.tick(20);
        due.is("it comes anew", x.way(0, 3), 1);
        // every RECORD is gone on its way
        ZonedFabric y = Scene.row(2, 2);
        y.tick(10);
        for (int t = 10; t < 153; t++) {
            y.tick(1);
            y.flip(0, 0, 20);
            y.flip(0, 1, 20);
        }
        for (int s = 0; s < 2; s++) {
            due.is("kept at 4, there at 153", y.record(s, 1 - s, 4), 4);
            due.is("the way by it", y.way(s, 2 - s), 1 - s);
        }
        y.tick(1);
        for (int s = 0; s < 2; s++) {
            due.is("not at 154", y.record(s, 1 - s, 4), -1);
            due.is("nor the way by it", y.way(s, 2 - s), -1);
            due.is("its own, which is issued anew, is", y.record(s, s, 4), 123);
        }
    }

    @Sentence("At a HELLO: the neighbour is noted, then all records that it keeps (of others, by numbers) go to that port's queue; "
        + "its own goes with the next issue.")
    @Slip(from = "for (int r = 0; r < notices.length; r++) {\n                if (r != number && notices[r].isKept()) {",
        to = "for (int r = 0; r < notices.length; r++) {\n                if (r != number && r != port.neighbour && notices[r].isKept()) {")
    @Slip(from = "for (int r = 0; r < notices.length; r++) {\n                if (r != number && notices[r].isKept()) {",
        to = "for (int r = 0; r < notices.length; r++) {\n                if (notices[r].isKept()) {")
    @Slip(from = "for (int r = 0; r < notices.length; r++) {\n                if (r != number && notices[r].isKept()) {",
        to = "for (int r = notices.length - 1; r >= 0; r--) {\n                if (r != number && notices[r].isKept()) {")
    @Slip(from = "if (r != number && notices[r].isKept()) {", to = "if (r != number) {")
    static void recordsAtAHello(Due due) {
        // 2 keeps those of 0, 1 and 3, and none of 4, as its wire to 3 comes up again
        ZonedFabric x = new ZonedFabric(5, 1, 4);
        x.wire(2, 0, 0, 0, 1);
        x.wire(2, 1, 1, 0, 1);
        x.wire(2, 2, 3, 0, 1);
        x.tick(30);
        x.cut(2);
        x.join(2);
        x.tick(2);
        due.is("three are in the queue", x.port(2, 2, 2), 3);
        due.is("in that port's alone", x.port(2, 0, 2) + x.port(2, 1, 2), 0);
        int[] due4 = {0, 1, 3, 2};
        for (int i = 0; i < 4; i++) {
            x.tick(1);
            due.is("KIND of frame " + i, Scene.kind(x, 2, 0), 2);
            due.is("record " + i, x.frame(2, 0, 13) >>> 56, due4[i]);
        }
        due.is("its own tells the neighbour", x.frame(2, 0, 16) >>> 40, x.record(2, 2, 0) << 16 | 0x0303);
        x.tick(1);
        due.is("none more", Scene.kind(x, 2, 0), 0);
    }

    @Sentence("TIMERS of a switch, in this order: records that are too old go; each port (rising) that is up, to a switch, without a "
        + "neighbour: a HELLO goes to its queue, if none did in the ten ticks before (the eleventh tick behind one again;")
    @Slip(from = "int HELLO_PAUSE = 11;", to = "int HELLO_PAUSE = 10;")
    @Slip(from = "int HELLO_PAUSE = 11;", to = "int HELLO_PAUSE = 12;")
    @Slip(from = "if (port.up && port.isToSwitch() && port.neighbour == NONE", to = "if (port.up && port.neighbour == NONE")
    @Slip(from = "if (port.up && port.isToSwitch() && port.neighbour == NONE", to = "if (p < 7 && port.up && port.isToSwitch() && port.neighbour == NONE")
    static void helloInTheEleventhTick(Due due) {
        ZonedFabric x = new ZonedFabric(2, 1, 2);
        x.wire(0, 0, 1, 7, 1);
        x.wire(0, 3, 16, 0, 1);
        int[] seen = new int[2];
        for (int t = 1; t <= 36; t++) {
            x.tick(1);
            for (int side = 0; side < 2; side++) {
                if (Scene.kind(x, 0, side) == 1) {
                    due.is("HELLO of switch " + side, t, 1 + 11 * seen[side]);
                    due.yes("it will not come", x.flip(0, side, 30));
                    seen[side]++;
                }
            }
        }
        due.is("HELLOs of switch 0", seen[0], 4);
        due.is("HELLOs of switch 1", seen[1], 4);
        due.is("sent in all, with FLOGI and WELCOME: none of them to the node", x.count(6), 10);
        x.cut(0);
        x.tick(20);
        due.is("none where the wire is cut", x.count(6), 10);
    }

    @Sentence("since its wire came up; a port that has its neighbour sends none, so a HELLO that is gone may leave the other end "
        + "without one till the wire is cut); then its own record, if it is to be issued.")
    @Slip(from = "            credits = shared.room;\n            calledAt = NEVER;", to = "            credits = shared.room;")
    @Slip(from = "port.isToSwitch() && port.neighbour == NONE\n", to = "port.isToSwitch()\n")
    static void helloThatIsGone(Due due) {
        ZonedFabric x = Scene.row(2, 2);
        x.tick(1);
        due.yes("the HELLO of 0 is gone", x.flip(0, 0, 30));
        x.tick(2);
        due.is("0 has its neighbour", x.port(0, 1, 3), 1);
        due.is("and tells it", x.record(0, 0, 2), 1);
        x.tick(57);
        due.is("the other end has none", x.port(1, 0, 3), -1);
        x.cut(0);
        x.join(0);
        x.tick(1);
        due.is("HELLO at once", Scene.kind(x, 0, 0), 1);
        due.is("HELLO at once of the other end", Scene.kind(x, 0, 1), 1);
        x.tick(2);
        due.is("now it has", x.port(1, 0, 3), 0);
        due.is("and tells it in the next TIMERS", x.record(1, 1, 2), 1);
        x.tick(30);
        int sent = x.count(6);
        x.cut(0);
        x.join(0);
        x.tick(3);
        x.cut(0);
        x.join(0);
        x.tick(1);
        due.is("HELLO in the first tick again, three behind the last", Scene.kind(x, 0, 0) + Scene.kind(x, 0, 1), 2);
        due.yes("all was sent", x.count(6) > sent);
    }
}
