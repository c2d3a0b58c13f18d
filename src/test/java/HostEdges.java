/** Commands of a host: phases, what is sent again and when, what is taken, and how each ends. */
final class HostEdges {
    private static final int HOST = Scene.home(0);
    private static final int DISC = Scene.home(1);

    private HostEdges() {
    }

    /** A star of host 0 and disc 1 at TIME 10. */
    private static ZonedFabric ready(int room) {
        ZonedFabric x = Scene.star(2, room);
        x.tick(10);
        return x;
    }

    /** Goes on till the host sends a frame of a KIND in phase 2 of its command 0, and loses it. */
    private static ZonedFabric lost(Due due, int kind, boolean writes) {
        ZonedFabric x = ready(2);
        due.is("command", writes ? x.write(0, 1, 0, 0, 1, 5L) : x.read(0, 1, 0, 0, 1), 0);
        Scene.until(due, x, 0, 1, kind);
        due.yes("it is gone", x.flip(0, 1, 0));
        return x;
    }

    @Sentence("HOSTS have COMMANDS, at most 4 at a time that are not ended;")
    @Slip(from = "int LIVE_COMMANDS = 4;", to = "int LIVE_COMMANDS = 3;")
    @Slip(from = "int LIVE_COMMANDS = 4;", to = "int LIVE_COMMANDS = 5;")
    @Slip(from = "                if (!recent[i].isEnded()) {\n                    recent[kept]", to = "                if (recent[i] != null) {\n                    recent[kept]")
    @Slip(from = "                    recent[kept] = recent[i];\n", to = "")
    static void fourAtATime(Due due) {
        ZonedFabric x = Scene.star(3, 2);
        x.tick(10);
        for (int i = 0; i < 4; i++) {
            due.is("command " + i, i % 2 == 0 ? x.read(0, 2, 0, 0, 1) : x.write(0, 2, 0, 0, 1, 1L), i);
        }
        due.is("a fifth READ", x.read(0, 2, 0, 0, 1), -1);
        due.is("a fifth WRITE", x.write(0, 2, 0, 0, 1, 1L), -1);
        due.is("of another host", x.read(1, 2, 0, 0, 1), 4);
        x.tick(12);
        due.is("none has ended", x.read(0, 2, 0, 0, 1), -1);
        for (int t = 0; t < 20 && x.status(0) < 10; t++) {
            x.tick(1);
        }
        due.is("the first has ended", x.status(0), 10);
        due.yes("the last has not", x.status(3) < 10);
        due.yes("so there is room", x.read(0, 2, 0, 0, 1) == 5);
        x.tick(60);
        for (int i = 0; i < 4; i++) {
            due.is("all have ended: one more", x.read(0, 2, 0, 0, 1), 6 + i);
        }
        due.is("and no fifth", x.read(0, 2, 0, 0, 1), -1);
        oneGoesOn(due);
    }

    /** One ends, one that waits for a disc without a wire goes on, others begin; it ends in its own time. */
    private static void oneGoesOn(Due due) {
        ZonedFabric x = new ZonedFabric(1, 3, 2);
        x.disc(1);
        x.disc(2);
        x.wire(0, 0, 16, 0, 1);
        x.wire(0, 1, 17, 0, 1);
        x.tick(10);
        x.read(0, 1, 0, 0, 1);
        int far = x.read(0, 2, 0, 0, 1);
        x.tick(30);
        due.is("the first has ended", x.status(0), 10);
        for (int i = 0; i < 3; i++) {
            due.is("three more", x.read(0, 1, 0, 0, 1), 2 + i);
        }
        due.is("not four", x.read(0, 1, 0, 0, 1), -1);
        x.tick(89);
        due.is("the one that goes on", x.status(far), 0);
        x.tick(1);
        due.is("it ends", x.status(far), 13);
    }

    @Sentence("each in a PHASE, with OX (its number modulo 65536): to a DISC, READ or WRITE, a unit, the first block, how many (1 .. 4).")
    @Slip(from = "node.address, command.number);\n            if (command.state", to = "node.address, command.number & 255);\n            if (command.state")
    @Slip(from = "&& count >= 1 && count <= PARTS", to = "&& count >= 1 && count < PARTS")
    @Slip(from = "&& count >= 1 && count <= PARTS", to = "&& count > 1 && count <= PARTS")
    @Slip(from = "return (long) unit << 24", to = "return 0L << 24")
    static void commandsOfAHost(Due due) {
        ZonedFabric x = ready(2);
        for (int count = 0; count <= 5; count++) {
            boolean right = count >= 1 && count <= 4;
            int c = x.write(0, 1, 1, 3, count, 10L * count);
            due.is("blocks: " + count, c, right ? count - 1 : -1);
            x.tick(40);
            due.is("status", x.status(c), right ? 10 : -1);
            for (int b = 0; right && b < 5; b++) {
                due.is("block " + b + " of " + count, x.block(1, 1, 3 + b), b < count ? 10L * count + b : 0);
            }
        }
        // no run has 65536 commands: OX is the number of the last that there can be
        ZonedFabric y = new ZonedFabric(1, 4, 2);
        y.disc(3);
        for (int c = 0; c < 299; c++) {
            due.is("command", y.read(c % 3, 3, 0, 0, 1), c);
            if (c % 12 == 11) {
                y.tick(120);
            }
        }
        y.tick(120);
        y.wire(0, 0, 16, 0, 1);
        y.wire(0, 1, 19, 0, 1);
        y.tick(10);
        due.is("the last command", y.write(0, 3, 1, 3, 2, 0L), 299);
        for (int[] f : new int[][] {{1, 5}, {1, 7}, {1, 9}}) {
            Scene.until(due, y, 0, f[0], f[1]);
            due.is("OX of KIND " + f[1], y.frame(0, 1, 7) >>> 48, 299);
        }
        due.is("its LOAD", y.frame(0, 1, 12) >>> 24, 0x0401010302L);
        y.tick(20);
        due.is("it ended", y.status(299), 10);
    }

    /** The phase of a command when this TOLD has come in the place of its own. */
    private static int told(Due due, int from, int... load) {
        ZonedFabric x = ready(2);
        x.read(0, 1, 0, 0, 1);
        x.tick(3);
        due.become(x, 0, 0, FabricModel.make(6, HOST, from, 0, 0, 0, load));
        x.tick(1);
        due.is("when the phase began", x.when(0, 2), x.status(0) == 0 ? 10 : 14);
        return x.status(0);
    }

    @Sentence("0 NAME: ASK (with OX) is sent; TOLD (FROM FFFFFC) of that node with an address: that is the disc's;")
    @Slip(from = "if (told.from() != TO_NAMES || address == 0 ||", to = "if (address == 0 ||")
    @Slip(from = "if (told.from() != TO_NAMES || address == 0 ||", to = "if (told.from() < TO_NAMES || address == 0 ||")
    @Slip(from = "if (told.from() != TO_NAMES || address == 0 ||", to = "if (told.from() != TO_NAMES ||")
    @Slip(from = "recent[i].state == NAMING && recent[i].disc == disc", to = "recent[i].state == NAMING")
    @Slip(from = "                    recent[i].address = address;\n", to = "                    recent[i].address = 0x010102;\n")
    static void toldOfThatNode(Due due) {
        due.is("an address", told(due, Scene.TO_NAMES, 1, 1, 1, 2), 1);
        due.is("0", told(due, Scene.TO_NAMES, 1, 0, 0, 0), 0);
        due.is("a small address", told(due, Scene.TO_NAMES, 1, 0, 0, 2), 1);
        due.is("of another node", told(due, Scene.TO_NAMES, 0, 1, 0, 1), 0);
        for (int from : new int[] {0xFFFFFB, Scene.TO_SWITCH, Scene.TO_LOGIN, 0xFFFFFF, DISC, 0}) {
            due.is("FROM " + Integer.toHexString(from), told(due, from, 1, 1, 1, 2), 0);
        }
        ZonedFabric x = ready(2);
        x.read(0, 1, 0, 0, 1);
        x.tick(3);
        due.become(x, 0, 0, FabricModel.make(6, HOST, Scene.TO_NAMES, 0, 0, 0, 1, 14, 3, 2));
        x.tick(1);
        due.is("that is the disc's: LOGIN goes there", x.frame(0, 1, 1) >>> 40, 0x0E0302);
    }

    @Sentence("phase 1, or 2, if the host is LOGGED IN there.")
    @Slip(from = "logins[disc] == address ? WORKING : LOGGING_IN", to = "logins[disc] != 0 ? WORKING : LOGGING_IN")
    @Slip(from = "logins[disc] == address ? WORKING : LOGGING_IN", to = "LOGGING_IN")
    @Slip(from = "logins[disc] == address ? WORKING : LOGGING_IN", to = "WORKING")
    static void loggedInThere(Due due) {
        for (int run = 0; run < 3; run++) {
            ZonedFabric x = ready(2);
            x.read(0, 1, 0, 0, 1);
            x.tick(4);
            due.is("not logged in yet", x.status(0), 1);
            x.tick(16);
            due.is("GOOD", x.status(0), 10);
            int c = x.read(0, 1, 0, 0, 1);
            x.tick(3);
            if (run > 0) {
                due.become(x, 0, 0, FabricModel.make(6, HOST, Scene.TO_NAMES, 0, 0, 0, 1, 1, 1 + run, 2));
            }
            x.tick(1);
            due.is("logged in, but not at address " + run, x.status(c), run == 0 ? 2 : 1);
        }
    }

    @Sentence("(All commands of the host in phase 0 that want that node go on.)")
    @Slip(from = "                    enter(recent[i], logins[disc]", to = "                    disc = -recent[i].number;\n                    enter(recent[i], logins[told.load(0)]")
    @Slip(from = "recent[i].state == NAMING && recent[i].disc == disc", to = "recent[i].state <= LOGGING_IN && recent[i].disc == disc")
    static void allThatWantThatNode(Due due) {
        ZonedFabric x = new ZonedFabric(1, 3, 4);
        x.disc(1);
        x.disc(2);
        for (int n = 0; n < 3; n++) {
            x.wire(0, n, 16 + n, 0, 1);
        }
        x.tick(10);
        for (int disc : new int[] {1, 2, 1, 1}) {
            x.read(0, disc, 0, 0, 1);
        }
        x.tick(4);
        int[] phases = {1, 0, 1, 1};
        for (int c = 0; c < 4; c++) {
            due.is("command " + c + " by the first TOLD", x.status(c), phases[c]);
        }
        x.tick(1);
        due.is("the other disc's by the second", x.status(1), 1);
        x.tick(2);
        for (int c = 0; c < 4; c++) {
            due.is("phase 1 of " + c + " began once", x.when(c, 2), c == 1 ? 15 : 14);
        }
    }

    /** Host 0's READ with this LOGGED in the place of its own at TIME 17. */
    private static ZonedFabric logged(Due due, int from) {
        ZonedFabric x = ready(2);
        x.read(0, 1, 0, 0, 1);
        x.tick(7);
        due.become(x, 0, 0, FabricModel.make(8, HOST, from, 9, 9, 9));
        x.tick(1);
        return x;
    }

    @Sentence("1 LOGIN: LOGIN (7; TO the disc, OX, LOAD the host) is sent.")
    @Slip(from = "                frame.addLoad(1, node.number);", to = "                frame.addLoad(1, command.disc);")
    @Slip(from = "PHASE_KINDS = {ASK, LOGIN, COMMAND, ABORT}", to = "PHASE_KINDS = {ASK, LOGGED, COMMAND, ABORT}")
    static void login(Due due) {
        ZonedFabric x = Scene.star(3, 4);
        x.tick(10);
        x.read(0, 2, 0, 0, 1);
        x.read(1, 2, 0, 0, 1);
        x.read(1, 2, 0, 0, 1);
        x.tick(4);
        due.frame("LOGIN of host 0", x, 0, 1, FabricModel.make(7, Scene.home(2), Scene.home(0), 0, 0, 0, 0));
        due.frame("LOGIN of host 1", x, 1, 1, FabricModel.make(7, Scene.home(2), Scene.home(1), 1, 0, 0, 1));
        x.tick(1);
        due.frame("its second", x, 1, 1, FabricModel.make(7, Scene.home(2), Scene.home(1), 2, 0, 0, 1));
    }

    @Sentence("LOGGED (8) FROM an address whose last byte is a node + 1 (whether one waits for it or not): the host is logged in there")
    @Slip(from = "if (disc < 0 || disc >= logins.length) {\n                return;\n            }\n            logins[disc] = from;",
        to = "if (disc < 0 || disc >= logins.length - 1) {\n                return;\n            }\n            logins[disc] = from;")
    @Slip(from = "if (disc < 0 || disc >= logins.length) {\n                return;\n            }\n            logins[disc] = from;",
        to = "if (disc < 0 || disc > logins.length) {\n                return;\n            }\n            logins[disc] = from;")
    @Slip(from = "if (disc < 0 || disc >= logins.length) {\n                return;\n            }\n            logins[disc] = from;",
        to = "if (disc >= logins.length) {\n                return;\n            }\n            logins[disc] = from;")
    @Slip(from = "if (disc < 0 || disc >= logins.length) {\n                return;\n            }\n            logins[disc] = from;",
        to = "if (disc < 1 || disc >= logins.length) {\n                return;\n            }\n            logins[disc] = from;")
    @Slip(from = "            logins[disc] = from;\n            for (int i = 0; i < recentCount; i++) {\n                if (recent[i].state == LOGGING_IN && recent[i].address == from) {",
        to = "            for (int i = 0; i < recentCount; i++) {\n                if (recent[i].state == LOGGING_IN && recent[i].address == from) {\n                    logins[disc] = from;")
    static void loggedFromANode(Due due) {
        for (int last : new int[] {0, 1, 2, 3, 9, 255}) {
            ZonedFabric y = logged(due, 0x010100 | last);
            due.is("FROM's last byte " + last, y.status(0), last == 2 ? 2 : 1);
            due.is("none is counted", y.count(1) + y.count(2) + y.count(3), 0);
        }
        // node 0 is the disc
        ZonedFabric w = new ZonedFabric(1, 2, 2);
        w.disc(0);
        w.wire(0, 0, 17, 0, 1);
        w.wire(0, 1, 16, 0, 1);
        w.tick(10);
        w.read(1, 0, 0, 0, 1);
        w.tick(8);
        due.is("LOGGED of node 0", w.status(0), 2);
        // none waits for it: a LOGGED in the place of WELCOME
        ZonedFabric z = ready(2);
        z.tick(83);
        due.become(z, 0, 0, FabricModel.make(8, HOST, DISC, 0, 0, 0));
        z.tick(1);
        int c = z.read(0, 1, 0, 0, 1);
        z.tick(4);
        due.is("logged in already", z.status(c), 2);
    }

    @Sentence("(at one address for each node, the latest); its commands in phase 1 to that address come to phase 2.")
    @Slip(from = "recent[i].state == LOGGING_IN && recent[i].address == from", to = "recent[i].state == LOGGING_IN && recent[i].disc == disc")
    @Slip(from = "recent[i].state == LOGGING_IN && recent[i].address == from", to = "recent[i].state <= LOGGING_IN && recent[i].disc == disc")
    @Slip(from = "            logins[disc] = from;\n            for", to = "            logins[disc] = logins[disc] == 0 ? from : logins[disc];\n            for")
    static void oneAddressForEachNode(Due due) {
        ZonedFabric x = logged(due, 0x010202);
        due.is("the command is to another address", x.status(0), 1);
        x.tick(20);
        due.is("LOGIN again, and LOGGED", x.status(0), 2);
        x.tick(20);
        // a LOGGED in the place of WELCOME: the latest is at another address
        x.tick(93 - x.count(0));
        due.become(x, 0, 0, FabricModel.make(8, HOST, 0x010202, 0, 0, 0));
        x.tick(1);
        int c = x.read(0, 1, 0, 0, 1);
        x.tick(4);
        due.is("not logged in at the first one any more", x.status(c), 1);
        x.tick(20);
        int d = x.read(0, 1, 0, 0, 1);
        x.tick(4);
        due.is("but again", x.status(d), 2);
        // two commands in phase 1, and one in phase 0
        ZonedFabric y = ready(4);
        y.read(0, 1, 0, 0, 1);
        y.read(0, 1, 0, 0, 1);
        y.tick(6);
        y.read(0, 1, 0, 0, 1);
        y.tick(2);
        due.is("the first", y.status(0), 2);
        due.is("the second by the same LOGGED", y.status(1), 2);
        due.is("the third is in phase 0", y.status(2), 0);
    }

    @Sentence("2 WORK: COMMAND (9; OX, LOAD: unit, 0 READ or 1 WRITE, block, how many) is sent, once.")
    @Slip(from = "} else if (command.state == WORKING) {\n                if (old) {", to = "} else if (command.state == WORKING && (old || inPhase % SEND_AGAIN != 0)) {\n                if (old) {")
    @Slip(from = "(writes ? 1L : 0L) << 16", to = "(writes ? 0L : 1L) << 16")
    @Slip(from = "(long) block << 8 | count", to = "(long) count << 8 | block")
    static void commandOnce(Due due) {
        ZonedFabric x = ready(2);
        x.write(0, 1, 1, 12, 4, 1L);
        x.tick(8);
        due.frame("COMMAND of a WRITE", x, 0, 1, FabricModel.make(9, DISC, HOST, 0, 0, 0, 1, 1, 12, 4));
        ZonedFabric y = lost(due, 9, false);
        due.is("COMMAND of a READ", y.frame(0, 1, 12) >>> 24, 0x0400000001L);
        int sent = y.count(6);
        y.tick(129 - y.count(0));
        due.is("phase 2", y.status(0), 2);
        due.is("sent since: two FLOGI and two WELCOME", y.count(6) - sent, 4);
    }

    /** A READ in phase 3 since TIME 130, its ABORT gone, and ABORTED in the place of the next WELCOME to the host. */
    private static int aborted(Due due, int kind, int from, int ox) {
        ZonedFabric x = lost(due, 9, false);
        x.tick(130 - x.count(0));
        due.is("phase 3", x.status(0), 3);
        Scene.until(due, x, 0, 0, 14);
        due.become(x, 0, 0, FabricModel.make(kind, HOST, from, ox, 0, 0));
        x.tick(1);
        due.is("when it ended", x.when(0, 1), x.status(0) == 3 ? -1 : 134);
        return x.status(0);
    }

    @Sentence("3 ABORTING: ABORT (13; OX) is sent; ABORTED (14) FROM the disc with its OX: the command ends ABORTED.")
    @Slip(from = "command.state == phase && command.number == frame.ox() && command.address == frame.from()",
        to = "command.state == phase && command.number == frame.ox()")
    @Slip(from = "command.state == phase && command.number == frame.ox() && command.address == frame.from()",
        to = "command.state == phase && command.address == frame.from()")
    @Slip(from = "Command command = commandOf(aborted, ABORTING);", to = "Command command = commandOf(aborted, WORKING);\n            command = command == null ? commandOf(aborted, ABORTING) : command;")
    @Slip(from = "PHASE_KINDS = {ASK, LOGIN, COMMAND, ABORT}", to = "PHASE_KINDS = {ASK, LOGIN, COMMAND, ABORTED}")
    @Slip(from = "Command command = commandOf(aborted, ABORTING);\n            if (command != null) {\n                command.end(ENDED_ABORTED", to = "Command command = commandOf(aborted, ABORTING);\n            if (command != null) {\n                command.end(ENDED_BAD")
    static void abortedFromTheDisc(Due due) {
        due.is("FROM the disc, with its OX", aborted(due, 14, DISC, 0), 12);
        due.is("another OX", aborted(due, 14, DISC, 1), 3);
        due.is("an OX that differs in its high byte", aborted(due, 14, DISC, 256), 3);
        due.is("FROM another address of it", aborted(due, 14, 0x010202, 0), 3);
        due.is("FROM the host", aborted(due, 14, HOST, 0), 3);
        due.is("another KIND", aborted(due, 13, DISC, 0), 3);
        ZonedFabric x = lost(due, 9, false);
        x.tick(93 - x.count(0));
        due.become(x, 0, 0, FabricModel.make(14, HOST, DISC, 0, 0, 0));
        x.tick(1);
        due.is("in phase 2", x.status(0), 2);
        x.tick(130 - x.count(0));
        due.frame("ABORT", x, 0, 1, FabricModel.make(13, DISC, HOST, 0, 0, 0));
    }

    /** At which ticks the host sends a KIND till its command ends, and none in that tick. */
    private static void sends(Due due, ZonedFabric x, int kind, int end, int... times) {
        int seen = 0;
        for (int t = x.count(0); t <= end; t++) {
            if (Scene.kind(x, 0, 1) == kind) {
                due.is("KIND " + kind + " is sent", t, seen < times.length ? times[seen] : -1);
                seen++;
            }
            x.tick(1);
        }
        due.is("KIND " + kind + " in all", seen, times.length);
        due.is("the command ended", x.when(0, 1), end);
    }

    @Sentence("(First this, then what is to be sent again.")
    @Slip(from = "            if (command.state < WORKING && old) {\n", to = "            if (inPhase > 0 && inPhase % SEND_AGAIN == 0 && command.state != WORKING) {\n                sendForPhase(command);\n            }\n            if (command.state < WORKING && old) {\n")
    @Slip(from = "} else if (command.state == ABORTING && inPhase >= ABORT_LIFE) {\n", to = "} else if (command.state == ABORTING && inPhase >= ABORT_LIFE) {\n                sendForPhase(command);\n")
    static void firstTheEnd(Due due) {
        // 120 ticks since it began, and 60 in phase 3, are 20th ticks, too: in these it ends, and sends nothing
        ZonedFabric x = ready(2);
        x.tick(7);
        x.cut(1);
        x.tick(1);
        x.read(0, 1, 0, 0, 1);
        x.tick(100);
        due.is("ASK in the 100th tick", Scene.kind(x, 0, 1), 5);
        x.tick(20);
        due.is("ended in the 120th", x.when(0, 1), 138);
        due.is("no ASK", Scene.kind(x, 0, 1) + x.port(16, 0, 2), 0);
        ZonedFabric y = lost(due, 9, false);
        y.cut(1);
        y.tick(170 - y.count(0));
        due.is("ABORT in the 40th tick of phase 3", Scene.kind(y, 0, 1), 13);
        y.tick(20);
        due.is("ended in the 60th", y.when(0, 1), 190);
        due.is("no ABORT", Scene.kind(y, 0, 1) + y.port(16, 0, 2), 0);
    }

    @Sentence("What a phase sends goes to the queue as it begins, and in phases 0, 1, 3 again in every 20th tick since.")
    @Slip(from = "int SEND_AGAIN = 20;", to = "int SEND_AGAIN = 19;")
    @Slip(from = "int SEND_AGAIN = 20;", to = "int SEND_AGAIN = 21;")
    @Slip(from = "int inPhase = shared.time - command.phaseAt;", to = "int inPhase = shared.time - command.beganAt;")
    @Slip(from = "            command.phaseAt = shared.time;\n            sendForPhase(command);", to = "            command.phaseAt = shared.time;\n            if (phase != LOGGING_IN) {\n                sendForPhase(command);\n            }")
    static void sentAgainInThe20thTick(Due due) {
        // the disc has no wire
        ZonedFabric x = new ZonedFabric(1, 2, 2);
        x.disc(1);
        x.wire(0, 0, 16, 0, 1);
        x.tick(10);
        x.read(0, 1, 0, 0, 1);
        due.is("in the queue as it begins", x.port(16, 0, 2), 1);
        sends(due, x, 5, 130, 11, 30, 50, 70, 90, 110);
        // the disc is cut off as TOLD comes
        ZonedFabric y = ready(2);
        y.read(0, 1, 0, 0, 1);
        y.tick(4);
        y.cut(1);
        sends(due, y, 7, 130, 14, 34, 54, 74, 94, 114);
        // the disc is cut off as COMMAND is gone
        ZonedFabric z = lost(due, 9, false);
        z.cut(1);
        sends(due, z, 13, 190, 130, 150, 170);
    }

    @Sentence("In TIMERS: in phases 0, 1 for 120 ticks since the command began: it ends NOT REACHED;")
    @Slip(from = "int COMMAND_LIFE = 120;", to = "int COMMAND_LIFE = 119;")
    @Slip(from = "int COMMAND_LIFE = 120;", to = "int COMMAND_LIFE = 121;")
    @Slip(from = "if (command.state < WORKING && old) {", to = "if (command.state < LOGGING_IN && old) {")
    @Slip(from = "boolean old = shared.time - command.beganAt >= COMMAND_LIFE;", to = "boolean old = shared.time - command.phaseAt >= COMMAND_LIFE;")
    @Slip(from = "command.end(ENDED_UNREACHED, shared.time);", to = "command.end(ENDED_ABORTED, shared.time);")
    static void notReachedIn120Ticks(Due due) {
        for (int phase = 0; phase < 2; phase++) {
            ZonedFabric x = ready(2);
            x.tick(7);
            due.is("command", x.write(0, 1, 0, 0, 1, 5L), 0);
            x.tick(phase == 0 ? 2 : 5);
            due.is("phase", x.status(0), phase);
            x.cut(phase);
            x.tick(17 + 119 - x.count(0));
            due.is("119 ticks since it began", x.status(0), phase);
            due.is("not ended", x.when(0, 1), -1);
            x.tick(1);
            due.is("120 ticks since it began", x.status(0), 13);
            due.is("ended", x.when(0, 1), 137);
        }
    }

    @Sentence("in phase 2 likewise: phase 3;")
    @Slip(from = "int COMMAND_LIFE = 120;", to = "int COMMAND_LIFE = 119;")
    @Slip(from = "int COMMAND_LIFE = 120;", to = "int COMMAND_LIFE = 121;")
    @Slip(from = "                if (old) {\n                    enter(command, ABORTING);", to = "                if (inPhase >= COMMAND_LIFE) {\n                    enter(command, ABORTING);")
    static void phase3In120Ticks(Due due) {
        ZonedFabric x = lost(due, 9, false);
        due.is("phase 2 began", x.when(0, 2), 18);
        x.tick(129 - x.count(0));
        due.is("119 ticks since it began", x.status(0), 2);
        x.tick(1);
        due.is("120 ticks since it began", x.status(0), 3);
        due.is("phase 3 began", x.when(0, 2), 130);
        due.is("ABORT is sent", Scene.kind(x, 0, 1), 13);
    }

    @Sentence("in phase 3 for 60 ticks since that began: it ends ABORTED.")
    @Slip(from = "int ABORT_LIFE = 60;", to = "int ABORT_LIFE = 59;")
    @Slip(from = "int ABORT_LIFE = 60;", to = "int ABORT_LIFE = 61;")
    @Slip(from = "command.state == ABORTING && inPhase >= ABORT_LIFE", to = "command.state == ABORTING && shared.time - command.beganAt >= COMMAND_LIFE + ABORT_LIFE")
    static void abortedIn60Ticks(Due due) {
        ZonedFabric x = lost(due, 9, false);
        x.cut(1);
        x.tick(189 - x.count(0));
        due.is("59 ticks in phase 3", x.status(0), 3);
        x.tick(1);
        due.is("60 ticks in phase 3", x.status(0), 12);
        due.is("ended", x.when(0, 1), 190);
        // a READ whose DATA is gone is in phase 3 at 23, and its disc is cut off
        ZonedFabric y = ready(2);
        y.read(0, 1, 0, 0, 1);
        Scene.until(due, y, 0, 0, 11);
        y.flip(0, 0, 0);
        y.tick(2);
        due.is("phase 3", y.status(0), 3);
        due.is("it began", y.when(0, 2), 23);
        y.cut(1);
        y.tick(59);
        due.is("59 ticks in phase 3", y.status(0), 3);
        y.tick(1);
        due.is("60 ticks in phase 3", y.status(0), 12);
    }

    @Sentence("Nothing is sent without an address: that is lost.)")
    @Slip(from = "if (node.address == 0 || command.isEnded()) {", to = "if (command.isEnded()) {")
    @Slip(from = "            if (node.address == 0 || command.isEnded()) {\n", to = "            if (node.address == 0) {\n                command.phaseAt++;\n            }\n            if (node.address == 0 || command.isEnded()) {\n")
    static void nothingWithoutAnAddress(Due due) {
        ZonedFabric x = Scene.star(2, 2);
        x.read(0, 1, 0, 0, 1);
        due.is("none in the queue", x.port(16, 0, 2), 0);
        int asks = 0;
        for (int t = 1; t <= 20; t++) {
            x.tick(1);
            due.is("ASK at " + t, Scene.kind(x, 0, 1) == 5 ? 1 : 0, t == 20 ? 1 : 0);
            asks += Scene.kind(x, 0, 1) == 5 ? 1 : 0;
        }
        due.is("the address came at 4, ASK in the 20th tick", asks, 1);
        due.is("none is counted as lost", x.count(5), 0);
        x.tick(20);
        due.is("GOOD", x.status(0), 10);
    }

    /** A command, and another frame in the place of the first one of a KIND that comes for it; the status a tick later. */
    private static ZonedFabric answer(Due due, boolean writes, int comes, int kind, int from, int ox, int part, int... load) {
        ZonedFabric x = ready(4);
        due.is("command", writes ? x.write(0, 1, 0, 0, 3, 5L) : x.read(0, 1, 0, 0, 3), 0);
        Scene.until(due, x, 0, 0, comes);
        due.become(x, 0, 0, FabricModel.make(kind, HOST, from, ox, 77, part, load));
        x.tick(1);
        due.is("it was TRUE", x.count(1), 0);
        return x;
    }

    @Sentence("READY (10; of a WRITE), DATA (11; of a READ, PART below how many), DONE (12) are of the command with that OX, in phase 2, "
        + "FROM its disc; else they are gone, as all is that a host does not take.")
    @Slip(from = "if (command == null || !command.writes) {", to = "if (command == null) {")
    @Slip(from = "&& !command.writes && data.part() < command.count", to = "&& !command.writes && data.part() <= command.count")
    @Slip(from = "&& !command.writes && data.part() < command.count", to = "&& !command.writes && data.part() < command.count - 1")
    @Slip(from = "command.state == phase && command.number == frame.ox() && command.address == frame.from()",
        to = "command.state == phase && command.number == frame.ox()")
    @Slip(from = "command.state == phase && command.number == frame.ox() && command.address == frame.from()",
        to = "command.state == phase && command.address == frame.from()")
    @Slip(from = "Command command = commandOf(data, WORKING);", to = "Command command = commandOf(data, WORKING);\n            command = command == null ? commandOf(data, ABORTING) : command;")
    @Slip(from = "Command command = commandOf(done, WORKING);", to = "Command command = commandOf(done, WORKING);\n            command = command == null ? commandOf(done, ABORTING) : command;")
    static void ofTheCommand(Due due) {
        int[][] from = {{DISC, 0, 1}, {DISC, 1, 0}, {DISC, 256, 0}, {0x010202, 0, 0}, {HOST, 0, 0}, {Scene.TO_NAMES, 0, 0}};
        for (int[] f : from) {
            String what = "FROM " + Integer.toHexString(f[0]) + " OX " + f[1];
            due.is("READY " + what, Scene.kind(answer(due, true, 10, 10, f[0], f[1], 0, 3), 0, 1), f[2] == 1 ? 11 : 0);
            due.is("DONE good " + what, answer(due, true, 10, 12, f[0], f[1], 0, 0).status(0), f[2] == 1 ? 10 : 2);
            due.is("DONE bad " + what, answer(due, true, 10, 12, f[0], f[1], 0, 1).status(0), f[2] == 1 ? 11 : 2);
            due.is("DATA " + what, answer(due, false, 11, 11, f[0], f[1], 1, 0, 0, 0, 0, 0, 0, 0, 9).got(0, 1), f[2] == 1 ? 9 : 0);
        }
        for (int part : new int[] {0, 2, 3, 4, 255}) {
            ZonedFabric x = answer(due, false, 11, 11, DISC, 0, part, 0, 0, 0, 0, 0, 0, 0, 9);
            for (int i = 0; i < 4; i++) {
                due.is("PART " + part + " of three, got " + i, x.got(0, i), part == i && i < 3 ? 9 : 0);
            }
        }
        ZonedFabric y = answer(due, false, 12, 10, DISC, 0, 0, 3);
        due.is("READY of a READ", Scene.kind(y, 0, 1), 0);
        due.is("it waits", y.status(0), 2);
        for (int kind : new int[] {1, 3, 5, 7, 13, 15}) {
            ZonedFabric z = answer(due, true, 10, kind, DISC, 0, 0, 0);
            due.is("KIND " + kind + " is answered", Scene.kind(z, 0, 1), 0);
            due.is("KIND " + kind + " changes the phase", z.status(0), 2);
            due.is("KIND " + kind + " is counted", z.count(2) + z.count(3), 0);
        }
        lateAnswers(due);
    }

    /** Two READs: DATA of the first is gone, so it is in phase 3 as DATA and DONE of the second come as of the first. */
    private static void lateAnswers(Due due) {
        ZonedFabric x = ready(4);
        x.write(0, 1, 0, 0, 1, 8L);
        x.tick(30);
        int c = x.read(0, 1, 0, 0, 1);
        int d = x.read(0, 1, 0, 0, 1);
        Scene.until(due, x, 0, 0, 11);
        due.yes("DATA is gone", x.flip(0, 0, 0));
        x.tick(2);
        due.is("the first is in phase 3", x.status(c), 3);
        due.is("DATA of the second", Scene.kind(x, 0, 0), 11);
        due.become(x, 0, 0, FabricModel.make(11, HOST, DISC, c, 0, 0, 0, 0, 0, 0, 0, 0, 0, 9));
        x.tick(1);
        due.is("DATA in phase 3", x.got(c, 0), 0);
        due.become(x, 0, 0, FabricModel.make(12, HOST, DISC, c, 0, 0, 1));
        x.tick(1);
        due.is("DONE in phase 3", x.status(c), 3);
        due.is("the second waits", x.status(d), 2);
    }

    @Sentence("READY: for each block, in order, DATA (OX, READY's RX, PART 0, 1, .., LOAD eight bytes) is sent.")
    @Slip(from = "for (int i = 0; i < command.count; i++) {\n                Frame data", to = "for (int i = command.count - 1; i >= 0; i--) {\n                Frame data")
    @Slip(from = "for (int i = 0; i < command.count; i++) {\n                Frame data", to = "for (int i = 0; i < command.count - 1; i++) {\n                Frame data")
    @Slip(from = "for (int i = 0; i < command.count; i++) {\n                Frame data", to = "for (int i = 0; i < PARTS; i++) {\n                Frame data")
    @Slip(from = "data.put(AT_RX, 2, ready.rx());", to = "data.put(AT_RX, 2, 1);")
    @Slip(from = "                data.put(AT_PART, 1, i);\n                data.addLoad(8, command", to = "                data.addLoad(8, command")
    static void dataForEachBlock(Due due) {
        for (int count = 1; count <= 4; count++) {
            ZonedFabric x = ready(4);
            x.write(0, 1, 0, 0, count, -2L);
            Scene.until(due, x, 0, 0, 10);
            due.become(x, 0, 0, FabricModel.make(10, HOST, DISC, 0, 0x1234, 0, 255));
            for (int part = 0; part < 4; part++) {
                x.tick(1);
                if (part >= count) {
                    due.is("none more of " + count, Scene.kind(x, 0, 1), 0);
                } else {
                    due.frame("DATA " + part + " of " + count, x, 0, 1,
                        FabricModel.make(11, DISC, HOST, 0, 0x1234, part, FabricModel.eight(-2L + part)));
                }
            }
        }
    }

    @Sentence("DATA: PART's block came (again: the later value counts).")
    @Slip(from = "                came[part] = value;\n", to = "                came[part] = (cameBits >> part & 1) == 1 ? came[part] : value;\n")
    @Slip(from = "boolean hasAll() {\n            return cameBits == (1 << count) - 1;\n        }\n    }\n\n    /** The disc's part", to = "boolean hasAll() {\n            return cameBits > 0;\n        }\n    }\n\n    /** The disc's part")
    static void laterDataCounts(Due due) {
        ZonedFabric x = ready(4);
        x.read(0, 1, 0, 0, 2);
        Scene.until(due, x, 0, 0, 11);
        due.become(x, 0, 0, FabricModel.make(11, HOST, DISC, 0, 0, 1, 0, 0, 0, 0, 0, 0, 0, 5));
        x.tick(1);
        due.is("the first value", x.got(0, 1), 5);
        due.become(x, 0, 0, FabricModel.make(11, HOST, DISC, 0, 0, 1, 255, 255, 255, 255, 255, 255, 255, 255));
        x.tick(1);
        due.is("the later value", x.got(0, 1), -1);
        due.is("the other block", x.got(0, 0), 0);
        x.tick(1);
        due.is("DONE, and a block did not come", x.status(0), 3);
    }

    @Sentence("DONE (LOAD: 0 good, 1 bad): bad: it ends BAD, and the host is not logged in at that disc any more;")
    @Slip(from = "                    logins[command.disc] = 0;", to = "                    logins[0] = 0;")
    @Slip(from = "                if (command.disc < logins.length) {", to = "                if (command.disc < logins.length - 1) {")
    @Slip(from = "if (done.load(0) != 0) {", to = "if (done.load(0) != 0 && !command.writes) {")
    @Slip(from = "                command.end(ENDED_BAD, shared.time);", to = "                command.end(ENDED_ABORTED, shared.time);")
    static void doneBad(Due due) {
        for (int bad = 0; bad < 2; bad++) {
            ZonedFabric x = answer(due, true, 10, 12, DISC, 0, 0, bad);
            due.is("DONE " + bad, x.status(0), 10 + bad);
            due.is("ended", x.when(0, 1), 22);
            int c = x.read(0, 1, 0, 0, 1);
            x.tick(4);
            due.is("logged in or not", x.status(c), 2 - bad);
        }
        // a second disc, where it is logged in, too, and a READ that is BAD at the first
        ZonedFabric y = new ZonedFabric(1, 3, 2);
        y.disc(1);
        y.disc(2);
        for (int n = 0; n < 3; n++) {
            y.wire(0, n, 16 + n, 0, 1);
        }
        y.tick(10);
        y.read(0, 1, 0, 0, 1);
        y.tick(20);
        y.read(0, 2, 0, 0, 1);
        y.tick(20);
        int c = y.read(0, 1, 0, 0, 1);
        Scene.until(due, y, 0, 0, 12);
        due.become(y, 0, 0, FabricModel.make(12, HOST, DISC, c, 0, 0, 1));
        y.tick(1);
        due.is("a READ that has all is BAD", y.status(c), 11);
        int d = y.read(0, 2, 0, 0, 1);
        y.tick(4);
        due.is("logged in at the other disc", y.status(d), 2);
    }

    @Sentence("good: a WRITE, and a READ all of whose blocks came, ends GOOD; else phase 3.")
    @Slip(from = "} else if (command.writes || command.hasAll()) {", to = "} else if (command.hasAll()) {")
    @Slip(from = "} else if (command.writes || command.hasAll()) {", to = "} else if (done.load(0) == 0) {")
    @Slip(from = "} else if (command.writes || command.hasAll()) {", to = "} else if (command.writes || command.cameBits > 7) {")
    @Slip(from = "            } else {\n                enter(command, ABORTING);\n            }\n        }\n\n        private void takeAborted", to = "            } else {\n                command.end(ENDED_ABORTED, shared.time);\n            }\n        }\n\n        private void takeAborted")
    static void doneGood(Due due) {
        due.is("a WRITE", answer(due, true, 10, 12, DISC, 0, 0, 0).status(0), 10);
        for (int count = 1; count <= 4; count++) {
            for (int gone = -1; gone < count; gone++) {
                ZonedFabric x = ready(4);
                x.read(0, 1, 0, 0, count);
                Scene.until(due, x, 0, 0, 11);
                for (int part = 0; part < count; part++) {
                    due.yes("a part is gone", part != gone || x.flip(0, 0, 0));
                    x.tick(1);
                    due.is("it waits for DONE", x.status(0), 2);
                }
                x.tick(1);
                due.is(count + " blocks without " + gone, x.status(0), gone < 0 ? 10 : 3);
                due.is("ABORT", Scene.kind(x, 0, 1), gone < 0 ? 0 : 13);
            }
        }
    }
}
