/** What a disc keeps of hosts, which commands it refuses, and open WRITES. */
final class DiscEdges {
    private static final int HOST = Scene.home(0);
    private static final int OTHER = Scene.home(1);
    private static final int DISC = Scene.home(2);

    private DiscEdges() {
    }

    /** A star of hosts 0 and 1 and disc 2 at TIME 10. */
    private static ZonedFabric ready() {
        ZonedFabric x = Scene.star(3, 4);
        x.tick(10);
        return x;
    }

    /** A READ of the host at disc 7, which is logged in for it; GOOD or BAD. */
    private static int login(ZonedFabric x, int host) {
        int c = x.read(host, 7, 0, 0, 1);
        x.tick(20);
        return x.status(c);
    }

    /** A LOGIN of the host at disc 7 that comes FROM another address; the host's wire is cut behind it. */
    private static void loginFrom(Due due, ZonedFabric x, int host, int from) {
        x.cut(host);
        x.join(host);
        x.tick(5);
        x.read(host, 7, 0, 0, 1);
        Scene.until(due, x, 7, 0, 7);
        due.become(x, 7, 0, FabricModel.make(7, Scene.home(7), from, 0, 0, 0, host));
        x.tick(1);
        x.cut(host);
    }

    @Sentence("DISCS: LOGIN: the FROM address is logged in at the disc (at most 8; of more the oldest goes; one that is already stays at its "
        + "place), LOGGED goes back.")
    @Slip(from = "int DISC_LOGINS = 8;", to = "int DISC_LOGINS = 7;")
    @Slip(from = "int DISC_LOGINS = 8;", to = "int DISC_LOGINS = 9;")
    @Slip(from = "            if (isLoggedIn(from)) {\n                return;\n            }\n", to = "")
    @Slip(from = "            if (isLoggedIn(from)) {\n                return;\n            }\n",
        to = "            for (int i = 0; i + 1 < loginCount; i++) {\n                if (logins[i] == from) {\n                    logins[i] = logins[i + 1];\n                    logins[i + 1] = from;\n                }\n            }\n            if (isLoggedIn(from)) {\n                return;\n            }\n")
    @Slip(from = "System.arraycopy(logins, 1, logins, 0, DISC_LOGINS - 1);", to = "loginCount += 0;")
    @Slip(from = "System.arraycopy(logins, 1, logins, 0, DISC_LOGINS - 1);", to = "System.arraycopy(logins, 1, logins, 0, DISC_LOGINS - 2);")
    @Slip(from = "logIn(frame.from());\n                    answer(LOGGED", to = "logIn(frame.from());\n                    answer(ABORTED")
    static void eightLogins(Due due) {
        for (int more = 0; more < 2; more++) {
            ZonedFabric x = Scene.star(8, 4);
            x.tick(10);
            due.is("host 0", login(x, 0), 10);
            loginFrom(due, x, 1, 0x020001);
            x.join(1);
            x.tick(30);
            for (int host = 1; host < 7; host++) {
                due.is("host " + host, login(x, host), 10);
            }
            // host 0 logs in a second time, and stays the oldest
            x.cut(0);
            x.join(0);
            x.tick(10);
            due.is("host 0 again", login(x, 0), 10);
            if (more > 0) {
                loginFrom(due, x, 5, 0x020002);
            }
            due.is("the oldest of " + (8 + more), login(x, 0), more == 0 ? 10 : 11);
            for (int host = 1; host < 7; host++) {
                if (host != 5) {
                    due.is("host " + host + " of " + (8 + more), login(x, host), 10);
                }
            }
        }
    }

    /** What the disc answers first to host 0's COMMAND, with another FROM or LOAD in its place: KIND * 10, and DONE's LOAD. */
    private static int command(Due due, int from, int... load) {
        ZonedFabric x = ready();
        x.read(0, 2, 0, 0, 1);
        Scene.until(due, x, 2, 0, 9);
        due.become(x, 2, 0, FabricModel.make(9, DISC, from, 0, 0, 0, load));
        x.tick(1);
        int kind = Scene.kind(x, 2, 1);
        return 10 * kind + (kind == 12 ? (int) (x.frame(2, 1, 13) >>> 56) : 0);
    }

    @Sentence("COMMAND: FROM one that is not logged in, or with a unit above 1, not 1 .. 4 blocks, one of them above 15,")
    @Slip(from = "if (!isLoggedIn(command.from()) || unit >= UNITS", to = "if (unit >= UNITS")
    @Slip(from = "|| unit >= UNITS || count < 1 || count > PARTS\n", to = "|| unit > UNITS || count < 1 || count > PARTS\n")
    @Slip(from = "|| unit >= UNITS || count < 1 || count > PARTS\n", to = "|| unit >= UNITS || count > PARTS\n")
    @Slip(from = "|| unit >= UNITS || count < 1 || count > PARTS\n", to = "|| unit >= UNITS || count < 1 || count > PARTS + 1\n")
    @Slip(from = "|| unit >= UNITS || count < 1 || count > PARTS\n", to = "|| unit >= UNITS || count < 1 || count >= PARTS\n")
    @Slip(from = "|| block + count > BLOCKS ||", to = "|| block + count > BLOCKS + 1 ||")
    @Slip(from = "|| block + count > BLOCKS ||", to = "|| block + count >= BLOCKS ||")
    @Slip(from = "|| block + count > BLOCKS ||", to = "|| block >= BLOCKS ||")
    static void badCommands(Due due) {
        due.is("as it is", command(due, HOST, 0, 0, 0, 1), 110);
        for (int from : new int[] {OTHER, 0x010002, 0x010101, 0x020001, DISC, 0}) {
            due.is("FROM " + Integer.toHexString(from), command(due, from, 0, 0, 0, 1), 121);
        }
        for (int write = 0; write < 2; write++) {
            int good = write == 0 ? 110 : 100;
            int[][] right = {{0, 0, 1}, {1, 0, 1}, {0, 0, 4}, {1, 12, 4}, {0, 15, 1}, {0, 14, 2}};
            for (int[] r : right) {
                due.is("unit " + r[0] + ", block " + r[1] + ", blocks " + r[2], command(due, HOST, r[0], write, r[1], r[2]), good);
            }
            int[][] wrong = {{2, 0, 1}, {255, 0, 1}, {0, 0, 0}, {0, 0, 5}, {0, 0, 255}, {0, 16, 1}, {1, 13, 4}, {0, 15, 2},
                {0, 255, 1}, {1, 252, 4}};
            for (int[] w : wrong) {
                due.is("unit " + w[0] + ", block " + w[1] + ", blocks " + w[2], command(due, HOST, w[0], write, w[1], w[2]), 121);
            }
        }
    }

    @Sentence("or a WRITE with 6 OPEN (of all hosts): DONE bad.")
    @Slip(from = "int OPEN_WRITES = 6;", to = "int OPEN_WRITES = 5;")
    @Slip(from = "int OPEN_WRITES = 6;", to = "int OPEN_WRITES = 7;")
    @Slip(from = "|| isWrite && write == null", to = "|| write == null")
    static void sixOpenWrites(Due due) {
        ZonedFabric x = ready();
        for (int i = 0; i < 7; i++) {
            due.is("write", x.write(i / 4, 2, 0, i, 1, 100L + i), i);
        }
        int readies = 0;
        int bad = 0;
        for (int t = 0; t < 40; t++) {
            x.tick(1);
            int kind = Scene.kind(x, 2, 1);
            if (kind == 10) {
                due.is("RX", x.frame(2, 1, 9) >>> 48, ++readies);
                due.yes("READY is gone", x.flip(2, 1, 0));
            }
            bad += kind == 12 ? 1 : 0;
        }
        due.is("six are open", readies, 6);
        due.is("the seventh is not", bad, 1);
        due.is("that is the last one", x.status(6), 11);
        int r = x.read(1, 2, 0, 0, 1);
        x.tick(20);
        due.is("a READ is answered", x.status(r), 10);
        // an ABORT of the first makes room for one
        x.tick(93 - x.count(0));
        due.become(x, 2, 0, FabricModel.make(13, DISC, HOST, 0, 0, 0));
        x.tick(5);
        int c = x.write(1, 2, 0, 0, 1, 9L);
        x.tick(20);
        due.is("one more WRITE", x.status(c), 10);
    }

    @Sentence("READ: for each block DATA (PART, its value as it is now), then DONE good.")
    @Slip(from = "for (int i = 0; i < count && at + i < blocks.length; i++) {\n                Frame data", to = "for (int i = count - 1; i >= 0 && at + i < blocks.length; i--) {\n                Frame data")
    @Slip(from = "for (int i = 0; i < count && at + i < blocks.length; i++) {\n                Frame data", to = "for (int i = 0; i < count - 1 && at + i < blocks.length; i++) {\n                Frame data")
    @Slip(from = "                data.put(AT_PART, 1, i);\n                data.addLoad(8, blocks", to = "                data.addLoad(8, blocks")
    @Slip(from = "sendBlocks(command, unit * BLOCKS + block, count);\n                answer(DONE, command, 0, 1, 0L);",
        to = "answer(DONE, command, 0, 1, 0L);\n                sendBlocks(command, unit * BLOCKS + block, count);")
    static void dataOfARead(Due due) {
        for (int count = 1; count <= 4; count++) {
            ZonedFabric x = ready();
            x.write(0, 2, 1, 12, 4, 70L);
            x.tick(30);
            int c = x.read(0, 2, 1, 16 - count, count);
            Scene.until(due, x, 2, 1, 11);
            for (int part = 0; part < count; part++) {
                due.frame("DATA " + part + " of " + count, x, 2, 1,
                    FabricModel.make(11, HOST, DISC, c, 0, part, FabricModel.eight(74L - count + part)));
                x.tick(1);
            }
            due.frame("DONE of " + count, x, 2, 1, FabricModel.make(12, HOST, DISC, c, 0, 0, 0));
        }
        asItIsNow(due);
    }

    /** A WRITE of block 0 is done between the COMMANDs of two READs of it: each has what is there then. */
    private static void asItIsNow(Due due) {
        ZonedFabric x = ready();
        x.write(1, 2, 0, 0, 1, 8L);
        Scene.until(due, x, 1, 1, 11);
        x.read(0, 2, 0, 0, 1);
        due.is("not written yet", x.block(2, 0, 0), 0);
        x.tick(20);
        due.is("READ behind it", x.got(1, 0), 8);
        // the READ's COMMAND comes one tick ahead of the DATA of a WRITE, and its DATA is sent in that tick
        x.write(1, 2, 0, 0, 1, 9L);
        int d = x.read(0, 2, 0, 0, 1);
        Scene.until(due, x, 2, 0, 11);
        x.tick(1);
        due.is("written", x.block(2, 0, 0), 9);
        x.tick(10);
        due.is("READ ahead of it", x.got(d, 0), 8);
    }

    @Sentence("WRITE: it is OPEN, with the next RX (1 first, modulo 65536), READY (LOAD: how many) goes back (whatever else is open).")
    @Slip(from = "lastRx = lastRx + 1 & 65535;", to = "lastRx = lastRx + 2 & 65535;")
    @Slip(from = "private int lastRx;", to = "private int lastRx = -1;")
    @Slip(from = "lastRx = lastRx + 1 & 65535;", to = "lastRx = lastRx + 1 & 255;")
    @Slip(from = "answer(READY, command, lastRx, 1, count);", to = "answer(READY, command, lastRx, 1, 4);")
    static void nextRx(Due due) {
        ZonedFabric x = ready();
        int next = 1;
        for (int count = 1; count <= 4; count++) {
            int c = x.write(count % 2, 2, 0, 0, count, 5L);
            Scene.until(due, x, 2, 1, 10);
            due.frame("READY", x, 2, 1, FabricModel.make(10, Scene.home(count % 2), DISC, c, next++, 0, count));
            due.yes("it stays open", count == 1 || x.flip(2, 1, 0));
            x.tick(2);
        }
        // a run has 300 commands at most, so no RX comes to 65536; above 255 some do
        ZonedFabric y = Scene.star(2, 4);
        y.tick(10);
        for (int i = 0; i < 255; i++) {
            y.write(0, 1, 0, 0, 1, i);
            if (i % 4 == 3) {
                y.tick(40);
            }
        }
        y.tick(40);
        for (int i = 255; i < 257; i++) {
            due.is("command", y.write(0, 1, 0, 0, 1, 5L), i);
            Scene.until(due, y, 1, 1, 10);
            due.is("RX of WRITE " + i, y.frame(1, 1, 9) >>> 48, i + 1);
            y.tick(20);
            due.is("it is served", y.status(i), 10);
        }
    }

    /** Host 0's WRITE of two blocks, number 0 with RX 1, is open, READY being gone. */
    private static ZonedFabric openWrite(Due due) {
        ZonedFabric x = ready();
        x.write(0, 2, 0, 0, 2, 5L);
        Scene.until(due, x, 2, 1, 10);
        due.yes("READY is gone", x.flip(2, 1, 0));
        x.tick(1);
        return x;
    }

    /** DATA in the place of that which is on its way to the disc. */
    private static void data(Due due, ZonedFabric x, int from, int ox, int rx, int part, int value) {
        due.is("DATA is on the way", Scene.kind(x, 2, 0), 11);
        due.become(x, 2, 0, FabricModel.make(11, DISC, from, ox, rx, part, FabricModel.eight(value)));
        x.tick(1);
    }

    /** Host 1 sends four DATA, which may come as others. */
    private static void fourData(Due due, ZonedFabric x) {
        x.write(1, 2, 1, 0, 4, 3L);
        Scene.until(due, x, 2, 0, 11);
    }

    @Sentence("DATA of an open WRITE (OX, RX, FROM alike, PART below how many; else it is gone):")
    @Slip(from = "return open && ox == frame.ox() && from == frame.from();", to = "return open && from == frame.from();")
    @Slip(from = "return open && ox == frame.ox() && from == frame.from();", to = "return open && ox == frame.ox();")
    @Slip(from = "write.isOf(data) && write.rx == data.rx() && data.part() < write.count", to = "write.isOf(data) && data.part() < write.count")
    @Slip(from = "write.isOf(data) && write.rx == data.rx() && data.part() < write.count", to = "write.isOf(data) && write.rx == data.rx()")
    @Slip(from = "write.isOf(data) && write.rx == data.rx() && data.part() < write.count", to = "write.isOf(data) && write.rx == data.rx() && data.part() < write.count - 1")
    static void dataOfAnOpenWrite(Due due) {
        int[][] seconds = {{HOST, 0, 1, 1, 1}, {HOST, 1, 1, 1, 0}, {HOST, 256, 1, 1, 0}, {HOST, 0, 0, 1, 0}, {HOST, 0, 2, 1, 0},
            {HOST, 0, 257, 1, 0}, {OTHER, 0, 1, 1, 0}, {0x020001, 0, 1, 1, 0}, {HOST, 0, 1, 2, 0}, {HOST, 0, 1, 3, 0},
            {HOST, 0, 1, 255, 0}, {HOST, 0, 1, 0, 0}};
        for (int[] s : seconds) {
            ZonedFabric x = openWrite(due);
            fourData(due, x);
            data(due, x, HOST, 0, 1, 0, 50);
            due.is("one of two came", x.block(2, 0, 0), 0);
            data(due, x, s[0], s[1], s[2], s[3], 51);
            String what = "FROM " + Integer.toHexString(s[0]) + " OX " + s[1] + " RX " + s[2] + " PART " + s[3];
            due.is(what, x.block(2, 0, 1), s[4] == 1 ? 51 : 0);
            due.is(what + ", the first one", x.block(2, 0, 0), s[4] == 1 ? 50 : 0);
            due.is(what + ", block 2", x.block(2, 0, 2), 0);
            data(due, x, HOST, 0, 1, 1, 54);
            due.is(what + ", and then what is due", x.block(2, 0, 1), s[4] == 1 ? 51 : 54);
        }
    }

    @Sentence("PART's value is kept (the later one); when all have come: all are written, it is open no more, DONE good goes back.")
    @Slip(from = "                values[part] = value;\n", to = "                values[part] = (cameBits >> part & 1) == 1 ? values[part] : value;\n")
    @Slip(from = "            }\n            write.open = false;\n        }\n\n        private void takeAbort", to = "            }\n        }\n\n        private void takeAbort")
    @Slip(from = "answer(DONE, data, write.rx, 1, 0L);", to = "answer(DONE, data, write.rx, 1, 1L);")
    @Slip(from = "            cameBits = 0;\n", to = "")
    @Slip(from = "boolean hasAll() {\n            return cameBits == (1 << count) - 1;\n        }\n    }\n}", to = "boolean hasAll() {\n            return cameBits >= 1 << count - 1;\n        }\n    }\n}")
    static void whenAllHaveCome(Due due) {
        ZonedFabric x = openWrite(due);
        fourData(due, x);
        data(due, x, HOST, 0, 1, 1, 50);
        due.is("the last part alone", x.block(2, 0, 1), 0);
        data(due, x, HOST, 0, 1, 1, 51);
        due.is("it again", x.block(2, 0, 1), 0);
        due.is("no answer", Scene.kind(x, 2, 1), 0);
        data(due, x, HOST, 0, 1, 0, 52);
        due.is("all: the later value", x.block(2, 0, 1), 51);
        due.is("all: the first block", x.block(2, 0, 0), 52);
        due.frame("DONE good", x, 2, 1, FabricModel.make(12, HOST, DISC, 0, 1, 0, 0));
        data(due, x, HOST, 0, 1, 0, 53);
        due.is("open no more", x.block(2, 0, 0), 52);
        x.tick(1);
        due.is("no second answer", Scene.kind(x, 2, 1), 0);
        // the next WRITE waits for all of its own
        x.tick(20);
        due.is("write", x.write(0, 2, 0, 0, 2, 60L), 2);
        Scene.until(due, x, 2, 0, 11);
        x.tick(1);
        due.is("the first part of the next WRITE", x.block(2, 0, 0), 52);
        x.tick(1);
        due.is("all: the first block", x.block(2, 0, 0), 60);
        due.is("all: the second block", x.block(2, 0, 1), 61);
    }

    @Sentence("ABORT: those open with that OX and FROM are no more; ABORTED goes back.")
    @Slip(from = "if (writes[i].isOf(abort)) {", to = "if (writes[i].isOf(abort) && i == 0) {")
    @Slip(from = "if (writes[i].isOf(abort)) {", to = "if (writes[i].open) {")
    @Slip(from = "                    writes[i].open = false;\n                }\n            }\n            answer(ABORTED", to = "                    writes[i].openedAt = 0;\n                }\n            }\n            answer(ABORTED")
    @Slip(from = "            answer(ABORTED, abort, 0, 0, 0L);\n", to = "            lastRx += 0;\n")
    static void abortOfOpenWrites(Due due) {
        int[][] aborts = {{HOST, 0, 1}, {HOST, 1, 0}, {HOST, 256, 0}, {OTHER, 0, 0}, {0x020001, 0, 0}};
        for (int[] a : aborts) {
            ZonedFabric x = openWrite(due);
            x.write(0, 2, 0, 8, 2, 5L);
            Scene.until(due, x, 2, 0, 9);
            // a second WRITE of the host that is open with the same OX
            due.become(x, 2, 0, FabricModel.make(9, DISC, HOST, 0, 0, 0, 0, 1, 8, 2));
            x.tick(1);
            due.is("READY", x.frame(2, 1, 9) >>> 48, 2);
            x.flip(2, 1, 0);
            // the WELCOME to the disc is at 93
            x.tick(93 - x.count(0));
            due.become(x, 2, 0, FabricModel.make(13, DISC, a[0], a[1], 9, 9));
            x.tick(1);
            due.frame("ABORTED", x, 2, 1, FabricModel.make(14, a[0], DISC, a[1], 0, 0));
            fourData(due, x);
            data(due, x, HOST, 0, 1, 0, 50);
            data(due, x, HOST, 0, 1, 1, 51);
            data(due, x, HOST, 0, 2, 0, 52);
            data(due, x, HOST, 0, 2, 1, 53);
            String what = "ABORT FROM " + Integer.toHexString(a[0]) + " OX " + a[1];
            due.is(what + ", the first", x.block(2, 0, 1), a[2] == 1 ? 0 : 51);
            due.is(what + ", the second", x.block(2, 0, 9), a[2] == 1 ? 0 : 53);
        }
    }

    @Sentence("In TIMERS: one open for 120 ticks is no more.")
    @Slip(from = "int OPEN_LIFE = 120;", to = "int OPEN_LIFE = 119;")
    @Slip(from = "int OPEN_LIFE = 120;", to = "int OPEN_LIFE = 121;")
    @Slip(from = "            if (disc != null) {\n                disc.runTimers();\n            }\n", to = "")
    static void openFor120Ticks(Due due) {
        // what comes is taken ahead of TIMERS: DATA in the 120th tick is not too late, one tick later it is
        for (int late = 119; late <= 121; late++) {
            ZonedFabric x = ready();
            x.write(0, 2, 0, 0, 1, 5L);
            Scene.until(due, x, 2, 1, 10);
            int opened = x.count(0);
            // no ABORT comes of a host that is cut off
            x.cut(0);
            x.read(1, 2, 1, 0, 1);
            x.tick(opened + late - 10 - x.count(0));
            x.write(1, 2, 1, 0, 1, 3L);
            Scene.until(due, x, 2, 0, 11);
            data(due, x, HOST, 0, 1, 0, 50);
            due.is("DATA comes", x.count(0) - opened, late);
            due.is("DATA after " + late + " ticks", x.block(2, 0, 0), late <= 120 ? 50 : 0);
        }
    }

    @Sentence("All of these carry the OX of the frame that came, READY and the DONE of a WRITE its RX (others 0), FROM its address, TO the FROM "
        + "of the frame that came.")
    @Slip(from = "shared.draft(kind, came.from(), node.address, came.ox());\n            frame.put(AT_RX, 2, rx);", to = "shared.draft(kind, came.from(), node.address, came.ox() & 255);\n            frame.put(AT_RX, 2, rx);")
    @Slip(from = "shared.draft(kind, came.from(), node.address, came.ox());\n            frame.put(AT_RX, 2, rx);", to = "shared.draft(kind, came.from(), came.to() & 0xFF00FF, came.ox());\n            frame.put(AT_RX, 2, rx);")
    @Slip(from = "answer(DONE, command, 0, 1, 1L);", to = "answer(DONE, command, lastRx, 1, 1L);")
    @Slip(from = "answer(DONE, command, 0, 1, 1L);", to = "answer(DONE, command, command.rx(), 1, 1L);")
    @Slip(from = "answer(ABORTED, abort, 0, 0, 0L);", to = "answer(ABORTED, abort, abort.rx(), 0, 0L);")
    @Slip(from = "answer(LOGGED, frame, 0, 0, 0L);", to = "answer(LOGGED, frame, frame.rx(), 0, 0L);")
    @Slip(from = "answer(READY, command, lastRx, 1, count);", to = "answer(READY, command, 0, 1, count);")
    @Slip(from = "answer(DONE, data, write.rx, 1, 0L);", to = "answer(DONE, data, 0, 1, 0L);")
    @Slip(from = "sendBlocks(command, unit * BLOCKS + block, count);\n                answer(DONE, command, 0, 1, 0L);", to = "sendBlocks(command, unit * BLOCKS + block, count);\n                answer(DONE, command, lastRx, 1, 0L);")
    static void whatAnswersCarry(Due due) {
        int far = 0x0F0701;
        ZonedFabric x = ready();
        x.write(0, 2, 0, 0, 1, 5L);
        Scene.until(due, x, 2, 0, 7);
        due.become(x, 2, 0, FabricModel.make(7, DISC, far, 0xABCD, 0x1234, 9, 0));
        x.tick(1);
        due.frame("LOGGED", x, 2, 1, FabricModel.make(8, far, DISC, 0xABCD, 0, 0));
        Scene.until(due, x, 2, 0, 9);
        due.become(x, 2, 0, FabricModel.make(9, DISC, far, 0xABCE, 0x1234, 9, 1, 1, 0, 1));
        x.tick(1);
        due.frame("READY", x, 2, 1, FabricModel.make(10, far, DISC, 0xABCE, 1, 0, 1));
        x.write(1, 2, 0, 4, 1, 5L);
        Scene.until(due, x, 2, 0, 9);
        due.become(x, 2, 0, FabricModel.make(9, DISC, far, 0xABCF, 0x1234, 9, 1, 1, 16, 1));
        x.tick(1);
        due.frame("DONE bad of a WRITE", x, 2, 1, FabricModel.make(12, far, DISC, 0xABCF, 0, 0, 1));
        x.read(1, 2, 0, 4, 1);
        Scene.until(due, x, 2, 0, 9);
        due.become(x, 2, 0, FabricModel.make(9, DISC, far, 0xABC0, 0x1234, 9, 0, 0, 2, 1));
        x.tick(1);
        due.frame("DATA of a READ", x, 2, 1, FabricModel.make(11, far, DISC, 0xABC0, 0, 0, 0, 0, 0, 0, 0, 0, 0, 0));
        x.tick(1);
        due.frame("DONE of a READ", x, 2, 1, FabricModel.make(12, far, DISC, 0xABC0, 0, 0, 0));
        x.write(1, 2, 0, 8, 1, 5L);
        Scene.until(due, x, 2, 0, 11);
        due.become(x, 2, 0, FabricModel.make(11, DISC, far, 0xABCE, 1, 0, FabricModel.eight(7L)));
        x.tick(1);
        due.frame("DONE of a WRITE", x, 2, 1, FabricModel.make(12, far, DISC, 0xABCE, 1, 0, 0));
        due.is("it is written", x.block(2, 1, 0), 7);
        Scene.until(due, x, 2, 0, 4);
        due.become(x, 2, 0, FabricModel.make(13, DISC, far, 0xABC1, 0x1234, 9));
        x.tick(1);
        due.frame("ABORTED", x, 2, 1, FabricModel.make(14, far, DISC, 0xABC1, 0, 0));
    }

    @Sentence("All else that a disc gets is gone.")
    @Slip(from = "                case ABORT:\n                    takeAbort(frame);\n                    break;\n                default:",
        to = "                case ABORT:\n                    takeAbort(frame);\n                    break;\n                case ABORTED:\n                    answer(ABORTED, frame, 0, 0, 0L);\n                    break;\n                default:")
    @Slip(from = "                case LOGIN:\n                    logIn(frame.from());", to = "                case FLOGI:\n                case LOGIN:\n                    logIn(frame.from());")
    @Slip(from = "                case COMMAND:\n                    takeCommand(frame);", to = "                case TOLD:\n                case COMMAND:\n                    takeCommand(frame);")
    static void allElseIsGone(Due due) {
        int[][] others = {{7, 3}, {7, 5}, {7, 1}, {7, 10}, {7, 12}, {7, 255}, {7, 0}, {9, 6}, {9, 8}, {9, 14}, {9, 15}, {11, 8}, {11, 14},
            {4, 8}, {4, 14}, {4, 15}, {4, 4}};
        for (int[] o : others) {
            ZonedFabric x = ready();
            if (o[0] == 4) {
                x.tick(83);
            } else {
                x.write(0, 2, 0, 0, 1, 5L);
                Scene.until(due, x, 2, 0, o[0]);
            }
            int[] load = o[0] == 7 ? new int[1] : o[0] == 9 ? new int[4] : o[0] == 11 ? new int[8] : new int[0];
            due.become(x, 2, 0, FabricModel.make(o[1], DISC, HOST, 0, 1, 0, load));
            x.tick(1);
            due.is("KIND " + o[1] + " is answered", Scene.kind(x, 2, 1), 0);
            due.is("KIND " + o[1] + " is counted", x.count(1) + x.count(2) + x.count(3), 0);
            due.is("KIND " + o[1] + ", the disc's address", x.address(2), DISC);
            due.is("KIND " + o[1] + ", the block", x.block(2, 0, 0), 0);
        }
    }

    @Sentence("(Its wire being cut, a node has no address, LOGINS, open WRITES.)")
    @Slip(from = "            address = 0;\n            forgetLogins();", to = "            address = 0;")
    @Slip(from = "            address = 0;\n            forgetLogins();", to = "            forgetLogins();")
    @Slip(from = "for (int i = 0; i < logins.length; i++) {", to = "for (int i = 1; i < logins.length; i++) {")
    @Slip(from = "for (int i = 0; i < logins.length; i++) {", to = "for (int i = 0; i < logins.length - 1; i++) {")
    @Slip(from = "            loginCount = 0;\n            for", to = "            for")
    @Slip(from = "            loginCount = 0;\n            for (int i = 0; i < OPEN_WRITES; i++) {", to = "            loginCount = 0;\n            for (int i = 1; i < OPEN_WRITES; i++) {")
    static void cutOff(Due due) {
        ZonedFabric x = openWrite(due);
        x.cut(2);
        due.is("no address", x.address(2), 0);
        x.join(2);
        x.tick(10);
        int r = x.read(0, 2, 0, 0, 1);
        x.tick(13);
        due.is("the disc knows no login", x.status(r), 11);
        fourData(due, x);
        data(due, x, HOST, 0, 1, 0, 50);
        data(due, x, HOST, 0, 1, 1, 51);
        due.is("no WRITE is open", x.block(2, 0, 0), 0);
        for (int disc = 0; disc < 2; disc++) {
            ZonedFabric y = new ZonedFabric(1, 2, 4);
            y.disc(disc);
            y.wire(0, 0, 17 - disc, 0, 1);
            y.wire(0, 1, 16 + disc, 0, 1);
            y.tick(10);
            y.read(1 - disc, disc, 0, 0, 1);
            y.tick(20);
            due.is("it was logged in", y.status(0), 10);
            y.cut(0);
            y.join(0);
            y.tick(10);
            int c = y.read(1 - disc, disc, 0, 0, 1);
            y.tick(4);
            due.is("the host knows no login at disc " + disc, y.status(c), 1);
        }
    }
}
