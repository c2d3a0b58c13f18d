/** When a node calls its switch, and what goes with its address. */
final class NodeEdges {
    private NodeEdges() {
    }

    @Sentence("==== NODES TIMERS of a node, in this order: FLOGI; commands, by their numbers; open WRITES.")
    @Slip(from = {"            callSwitch();\n            if (host", "            if (disc != null) {\n                disc.runTimers();"},
        to = {"            if (host", "            callSwitch();\n            if (disc != null) {\n                disc.runTimers();"})
    @Slip(from = "for (int i = 0; i < recentCount; i++) {\n                Command command = recent[i];\n                if (!command.isEnded()) {",
        to = "for (int i = recentCount - 1; i >= 0; i--) {\n                Command command = recent[i];\n                if (!command.isEnded()) {")
    static void orderOfTimers(Due due) {
        // the disc has no wire: ASK is sent again at 31, 51, 71 and, with the FLOGI of the 90th tick, at 91
        ZonedFabric x = new ZonedFabric(1, 2, 4);
        x.disc(1);
        x.wire(0, 0, 16, 0, 1);
        x.tick(11);
        x.read(0, 1, 0, 0, 1);
        x.read(0, 1, 0, 0, 1);
        x.tick(80);
        due.is("FLOGI is sent at 91", Scene.kind(x, 0, 1), 3);
        due.is("two ASK are in the queue", x.port(16, 0, 2), 2);
        for (int c = 0; c < 2; c++) {
            x.tick(1);
            due.is("ASK", Scene.kind(x, 0, 1), 5);
            due.is("by their numbers", x.frame(0, 1, 7) >>> 48, c);
        }
    }

    /** Lets the host of wire 0 open a WRITE of block 0, and loses READY: the number of the command. */
    private static int openWrite(Due due, ZonedFabric x) {
        int c = x.write(0, 1, 0, 0, 1, 5L);
        Scene.until(due, x, 1, 1, 10);
        due.yes("READY is gone", x.flip(1, 1, 0));
        return c;
    }

    /** Whether that WRITE, with RX 1, is open: one more of the host sends the DATA for it, and block 0 has it then. */
    private static long takesData(Due due, ZonedFabric x, int c) {
        x.write(0, 1, 1, 0, 1, 7L);
        Scene.until(due, x, 1, 0, 11);
        due.become(x, 1, 0, FabricModel.make(11, x.address(1), x.address(0), c, 1, 0, 0, 0, 0, 0, 0, 0, 0, 9));
        x.tick(1);
        return x.block(1, 0, 0);
    }

    @Sentence("A node whose port is up sends FLOGI (to its queue, FROM its address, 0 without one): in the first ones behind its wire's coming "
        + "up, then 30 ticks behind the last one, if it has no address, else 90.")
    @Slip(from = "int FLOGI_PAUSE = 30;", to = "int FLOGI_PAUSE = 29;")
    @Slip(from = "int FLOGI_PAUSE = 30;", to = "int FLOGI_PAUSE = 31;")
    @Slip(from = "int FLOGI_PAUSE_KNOWN = 90;", to = "int FLOGI_PAUSE_KNOWN = 89;")
    @Slip(from = "int FLOGI_PAUSE_KNOWN = 90;", to = "int FLOGI_PAUSE_KNOWN = 91;")
    @Slip(from = "            credits = shared.room;\n            calledAt = NEVER;", to = "            credits = shared.room;")
    @Slip(from = "shared.draft(FLOGI, TO_LOGIN, address, 0)", to = "shared.draft(FLOGI, TO_LOGIN, 0, 0)")
    @Slip(from = {"if (port.up && shared.time - port.calledAt >= pause) {", "if (up && queue.size < QUEUE_ROOM) {"},
        to = {"if (shared.time - port.calledAt >= pause) {", "if (queue.size < QUEUE_ROOM) {"})
    static void flogiTimes(Due due) {
        flogis(due, "answered", 0, 1, 91, 181);
        flogis(due, "none is answered", 1, 1, 31, 61, 91, 121, 151, 181);
        flogis(due, "the address is lost at 12, and given at 34", 2, 1, 31, 121);
        flogis(due, "the address is lost at 52, and given at 55", 3, 1, 52, 142);
        flogis(due, "cut and joined at 10", 4, 1, 11, 101, 191);
        flogis(due, "cut at 10 and joined at 50", 5, 1, 51, 141);
    }

    private static void flogis(Due due, String what, int run, int... times) {
        ZonedFabric x = new ZonedFabric(1, 1, 1);
        x.wire(0, 0, 16, 0, 1);
        int seen = 0;
        for (int t = 1; t <= 200; t++) {
            if (t == 11 && run == 2 || t == 51 && run == 3) {
                x.domain(0, 5);
            }
            if (t == 11 && run > 3) {
                x.cut(0);
            }
            if (t == 11 && run == 4 || t == 51 && run == 5) {
                x.join(0);
            }
            x.tick(1);
            if (Scene.kind(x, 0, 1) == 3) {
                due.is(what + ": FLOGI " + seen, t, seen < times.length ? times[seen] : -1);
                due.is(what + ": its FROM", x.frame(0, 1, 4) >>> 40, x.address(0));
                seen++;
                due.yes(what + ": is it gone", run != 1 || x.flip(0, 1, 0));
            }
        }
        due.is(what + ": FLOGI in all", seen, times.length);
    }

    @Sentence("WELCOME (FROM FFFFFE): TO is its address from now on (0: none); if it had another one, its LOGINS (where a host,")
    @Slip(from = "if (address != 0 && address != given) {", to = "if (address != 0) {")
    @Slip(from = "if (address != 0 && address != given) {", to = "if (address != 0 && address != given && given != 0) {")
    @Slip(from = "if (address != 0 && address != given) {", to = "if (address != 0 && given == 0) {")
    @Slip(from = "            if (host != null) {\n                host.forgetLogins();\n            }\n", to = "")
    static void loginsOfAHostGo(Due due) {
        int[] given = {Scene.home(0), 0, 0x010701};
        for (int to : given) {
            ZonedFabric x = Scene.star(2, 2);
            x.tick(10);
            x.read(0, 1, 0, 0, 1);
            x.tick(83);
            due.is("logged in", x.status(0), 10);
            due.become(x, 0, 0, FabricModel.make(4, to, Scene.TO_LOGIN, 0, 0, 0));
            x.tick(1);
            due.is("its address from now on", x.address(0), to);
            // an address that the switch did not give is the host's till the FLOGI of 181
            x.tick(to == 0x010701 ? 100 : 40);
            due.is("its address then", x.address(0), Scene.home(0));
            int c = x.read(0, 1, 0, 0, 1);
            x.tick(4);
            due.is("WELCOME TO " + Integer.toHexString(to) + ": LOGIN or not", x.status(c), to == Scene.home(0) ? 2 : 1);
        }
        // at once, not by the next one: LOGGED comes at the other address, and the next WELCOME has it again
        ZonedFabric y = Scene.star(2, 2);
        y.tick(93);
        due.become(y, 0, 0, FabricModel.make(4, 0x010701, Scene.TO_LOGIN, 0, 0, 0));
        y.tick(90);
        due.is("WELCOME again", Scene.kind(y, 0, 0), 4);
        due.is("the other address", y.address(0), 0x010701);
        due.become(y, 0, 0, FabricModel.make(4, 0x010701, Scene.TO_LOGIN, 0, 0, 0));
        y.tick(1);
        due.is("the same again", y.address(0), 0x010701);
    }

    @Sentence("who at a disc is logged in), and a DISC's open WRITES, go.")
    @Slip(from = "            if (disc != null) {\n                disc.forgetLogins();\n            }\n", to = "")
    @Slip(from = "            loginCount = 0;\n            for", to = "            for")
    @Slip(from = "            loginCount = 0;\n            for (int i = 0; i < OPEN_WRITES; i++) {", to = "            loginCount = 0;\n            for (int i = 1; i < OPEN_WRITES; i++) {")
    @Slip(from = "if (address != 0 && address != given) {", to = "if (address != 0) {")
    static void loginsAndOpenWritesOfADiscGo(Due due) {
        for (int to = 0; to <= Scene.home(1); to += Scene.home(1)) {
            ZonedFabric x = Scene.star(2, 2);
            x.tick(60);
            int c = openWrite(due, x);
            x.tick(93 - x.count(0));
            due.become(x, 1, 0, FabricModel.make(4, to, Scene.TO_LOGIN, 0, 0, 0));
            x.tick(40);
            due.is("the disc's address", x.address(1), Scene.home(1));
            // the host thinks that it is logged in
            int r = x.read(0, 1, 0, 0, 1);
            x.tick(13);
            due.is("a READ at the disc", x.status(r), to == 0 ? 11 : 10);
            due.is("the open WRITE, and DATA for it", takesData(due, x, c), to == 0 ? 0 : 9);
        }
    }
}
