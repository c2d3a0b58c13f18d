/** Promises 10, 19, 20 and 22: what goes on in a tick, ports with credits, buffers and queues, and the counts. */
public final class TickTest {
    private static final Due DUE = new Due();

    public static void main(String[] args) {
        tickEdges();
        firstTicks();
        creditsComeBack();
        flogiTimes();
        portEdges();
        addressEdges();
        countEdges();
        goneByFrom();
        goneByZones();
        goneWithoutAWay();
        stays();
        fullQueue();
        lostUncounted();
        oneFrameOfABufferATick();
        portsGoRound();
        DUE.end();
    }

    private static ZonedFabric small(int room) {
        ZonedFabric x = new ZonedFabric(1, 2, room);
        x.disc(1);
        x.wire(0, 0, 16, 0, 1);
        x.wire(0, 1, 17, 0, 1);
        return x;
    }

    private static void tickEdges() {
        ZonedFabric x = small(2);
        for (int n : new int[] {-1, 301, Integer.MIN_VALUE, Integer.MAX_VALUE}) {
            DUE.is("10: tick(" + n + ")", x.tick(n), -1);
            DUE.is("10: no time goes by", x.count(0), 0);
        }
        DUE.is("10: tick(0)", x.tick(0), 0);
        DUE.is("10: no time goes by", x.count(0), 0);
        DUE.is("10: tick(300)", x.tick(300), 16);
        DUE.is("22: TIME", x.count(0), 300);
        DUE.is("10: tick(1)", x.tick(1), 0);
        DUE.is("22: TIME", x.count(0), 301);
    }

    private static void firstTicks() {
        ZonedFabric x = small(2);
        DUE.is("10: tick 1", x.tick(1), 0);
        DUE.is("22: two FLOGI are sent", x.count(6), 2);
        DUE.is("22: a record is issued", x.count(8), 1);
        DUE.is("19: the node's credits", x.port(16, 0, 0), 1);
        DUE.is("10: tick 2", x.tick(1), 2);
        DUE.is("19: WELCOME is in the queue", x.port(0, 0, 2), 1);
        DUE.is("19: nothing in the buffers", x.port(0, 0, 1), 0);
        DUE.is("19: the credit is to come", x.port(16, 0, 0), 1);
        DUE.is("22: no record yet", x.count(8), 1);
        DUE.is("10: tick 3", x.tick(1), 0);
        DUE.is("19: it is sent", x.port(0, 0, 2), 0);
        DUE.is("19: with a credit", x.port(0, 0, 0), 1);
        DUE.is("19: the credit came", x.port(16, 0, 0), 2);
        DUE.is("22: the record that tells two nodes", x.count(8), 2);
        DUE.is("20: not yet", x.address(1), 0);
        DUE.is("10: tick 4", x.tick(1), 2);
        DUE.is("20: node 0", x.address(0), 0x010001);
        DUE.is("20: node 1", x.address(1), 0x010102);
        DUE.is("22: sent", x.count(6), 4);
        DUE.is("22: passed on none", x.count(7), 0);
        x.tick(1);
        DUE.is("19: all credits", x.port(0, 0, 0), 2);
    }

    private static void creditsComeBack() {
        for (int room = 1; room <= 4; room++) {
            ZonedFabric x = small(room);
            x.tick(10);
            x.read(0, 1, 0, 0, 4);
            x.read(0, 1, 0, 4, 4);
            x.write(0, 1, 1, 4, 4, 9L);
            DUE.is("19: three ASK in the queue", x.port(16, 0, 2), 3);
            for (int t = 0; t < 70; t++) {
                x.tick(1);
                for (int n = 0; n < 2; n++) {
                    boolean sent = x.frame(n, 0, 0) != 0;
                    DUE.yes("19: credits are in bounds", x.port(0, n, 0) >= 0 && x.port(0, n, 0) <= room - (sent ? 1 : 0));
                    DUE.yes("19: buffers are", x.port(0, n, 1) <= room && x.port(16 + n, 0, 1) == 0);
                }
            }
            DUE.is("19: room " + room + ", all come back", x.port(0, 0, 0) + x.port(0, 1, 0) + x.port(16, 0, 0)
                + x.port(17, 0, 0), 4 * room);
            // three each of LOGIN, LOGGED, COMMAND; twice four DATA and DONE; READY, four DATA, DONE
            DUE.is("22: passed on", x.count(7), 3 * 3 + 2 * 5 + 6);
        }
    }

    private static void flogiTimes() {
        ZonedFabric x = new ZonedFabric(1, 1, 1);
        x.tick(7);
        x.wire(0, 0, 16, 0, 1);
        int[] due = {8, 98, 188};
        int seen = 0;
        for (int t = 8; t <= 200; t++) {
            x.tick(1);
            if (x.frame(0, 1, 0) != 0) {
                DUE.is("10: FLOGI " + seen, t, seen < due.length ? due[seen] : -1);
                DUE.is("10: its FROM", x.frame(0, 1, 4) >>> 40, seen == 0 ? 0 : 0x010001);
                seen++;
            }
        }
        DUE.is("10: FLOGI in all", seen, 3);
        ZonedFabric y = new ZonedFabric(1, 1, 1);
        y.wire(0, 0, 16, 0, 1);
        seen = 0;
        for (int t = 1; t <= 100; t++) {
            y.tick(1);
            if (y.flip(0, 1, 5)) {
                DUE.is("10: FLOGI without an answer", t, 1 + 30 * seen);
                seen++;
            }
        }
        DUE.is("10: FLOGI without an answer", seen, 4);
    }

    private static void portEdges() {
        ZonedFabric x = small(3);
        int[][] none = {{0, 2, 0}, {0, 0, -1}, {0, 0, 5}, {0, -1, 0}, {0, 8, 0}, {1, 0, 0}, {-1, 0, 0}, {15, 0, 0},
            {18, 0, 0}, {16, 1, 0}, {16, -1, 0}, {16, 0, 5}, {16, 0, -1}, {Integer.MAX_VALUE, 0, 0},
            {Integer.MIN_VALUE, 0, 0}, {0, Integer.MAX_VALUE, 0}, {0, 0, Integer.MIN_VALUE}};
        for (int[] p : none) {
            DUE.is("19: port " + java.util.Arrays.toString(p), x.port(p[0], p[1], p[2]), -1);
        }
        int[] first = {3, 0, 0, 1, 1};
        int[] node = {3, 0, 0, 0, 1};
        for (int what = 0; what < 5; what++) {
            DUE.is("19: port(0, 1, " + what + ")", x.port(0, 1, what), first[what]);
            DUE.is("19: port(17, 0, " + what + ")", x.port(17, 0, what), node[what]);
        }
    }

    private static void addressEdges() {
        ZonedFabric x = small(1);
        for (int n : new int[] {-1, 2, 16, Integer.MAX_VALUE, Integer.MIN_VALUE}) {
            DUE.is("20: address(" + n + ")", x.address(n), -1);
        }
        DUE.is("20: none yet", x.address(0), 0);
        x.tick(4);
        DUE.is("20: one", x.address(1), 0x010102);
        x.cut(1);
        DUE.is("20: none any more", x.address(1), 0);
        DUE.is("20: the other's stays", x.address(0), 0x010001);
    }

    private static void countEdges() {
        ZonedFabric x = small(1);
        for (int what : new int[] {-1, 11, Integer.MAX_VALUE, Integer.MIN_VALUE}) {
            DUE.is("22: count(" + what + ")", x.count(what), -1);
        }
        x.read(0, 1, 0, 0, 1);
        DUE.is("22: wires", x.count(9), 2);
        DUE.is("22: commands", x.count(10), 1);
        x.read(0, 1, 0, 16, 1);
        DUE.is("22: a refused one is none", x.count(10), 1);
    }

    /** A LOGIN of the host on its way to the switch, in a fabric where both have an address. */
    private static ZonedFabric loginOnTheWay() {
        ZonedFabric x = small(2);
        x.tick(10);
        x.read(0, 1, 0, 0, 1);
        x.tick(4);
        DUE.is("11: LOGIN", x.frame(0, 1, 0), 0x0701010201000100L);
        return x;
    }

    private static void crafted(int kind, int to, int from, int counted, String what) {
        ZonedFabric x = loginOnTheWay();
        DUE.become(x, 0, 1, FabricModel.make(kind, to, from, 0, 0, 0, 0));
        x.tick(1);
        for (int i = 1; i <= 5; i++) {
            DUE.is("22: " + what + ", count(" + i + ")", x.count(i), i == counted ? 1 : 0);
        }
        DUE.is("22: " + what + ", passed on", x.count(7), counted == 7 ? 1 : 0);
        DUE.is("19: " + what + ", buffers", x.port(0, 0, 1), 0);
        boolean answered = kind == 5 && to == 0xFFFFFC && counted == 0 || kind == 3 && to == 0xFFFFFE;
        DUE.is("19: " + what + ", queue", x.port(0, 0, 2), answered ? 1 : 0);
        x.tick(1);
        DUE.is("19: " + what + ", credits", x.port(16, 0, 0), 2);
    }

    private static void goneByFrom() {
        crafted(7, 0x010102, 0x010001, 7, "as it is");
        crafted(99, 0x010102, 0x010001, 7, "any KIND");
        crafted(7, 0x010001, 0x010001, 7, "to itself");
        crafted(7, 0x010102, 0x010101, 2, "FROM another port");
        crafted(7, 0x010102, 0x020001, 2, "FROM another domain");
        crafted(7, 0x010102, 0x010002, 2, "FROM another node");
        crafted(7, 0x010102, 0, 2, "FROM 0");
        crafted(7, 0x010100, 0x010001, 2, "TO no node");
        crafted(7, 0x010103, 0x010001, 2, "TO a node that is not");
        crafted(7, 0x0101FF, 0x010001, 2, "TO the node 254");
        crafted(5, 0xFFFFFC, 0x010101, 2, "ASK FROM another");
        crafted(5, 0xFFFFFC, 0, 2, "ASK FROM 0");
        crafted(5, 0xFFFFFC, 0x010001, 0, "ASK");
        crafted(3, 0xFFFFFE, 0, 0, "FLOGI");
        crafted(3, 0xFFFFFC, 0x010001, 0, "FLOGI TO FFFFFC");
        crafted(5, 0xFFFFFE, 0, 0, "ASK TO FFFFFE");
        crafted(1, 0xFFFFFD, 0xFFFFFD, 0, "HELLO at a node's port");
        crafted(7, 0xFFFFFE, 0x010001, 0, "LOGIN TO FFFFFE");
        crafted(7, 0xFFFFFC, 0x010001, 0, "LOGIN TO FFFFFC");
        crafted(7, 0xFFFFFD, 0x010001, 0, "LOGIN TO FFFFFD");
    }

    private static void goneByZones() {
        ZonedFabric x = loginOnTheWay();
        x.zoning(true);
        x.tick(1);
        DUE.is("22: no common zone at the node's port", x.count(2), 1);
        ZonedFabric y = new ZonedFabric(2, 2, 2);
        y.disc(1);
        y.wire(0, 0, 16, 0, 1);
        y.wire(1, 0, 17, 0, 1);
        y.wire(0, 1, 1, 1, 1);
        y.tick(20);
        y.read(0, 1, 0, 0, 1);
        y.tick(5);
        DUE.is("22: LOGIN between the switches", y.frame(2, 0, 0), 0x0702000201000100L);
        y.zoning(true);
        y.tick(1);
        DUE.is("22: no common zone at the last switch", y.count(2), 1);
        y.zoning(false);
        y.tick(19);
        DUE.is("22: LOGIN again", y.frame(2, 0, 0), 0x0702000201000100L);
        DUE.become(y, 2, 0, FabricModel.make(7, 0x020002, 0x010003, 0, 0, 0, 0));
        y.tick(1);
        DUE.is("22: FROM no node has no zone, also while they are off", y.count(2), 2);
        DUE.is("22: not for the way", y.count(3), 0);
    }

    private static void goneWithoutAWay() {
        crafted(7, 0x020102, 0x010001, 3, "no such domain");
        crafted(7, 0x000102, 0x010001, 3, "domain 0");
        crafted(7, 0xFFFF02, 0x010001, 3, "domain 255");
        crafted(7, 0x010202, 0x010001, 3, "a port without a wire");
        crafted(7, 0x010802, 0x010001, 3, "port 8");
        crafted(7, 0x01FF02, 0x010001, 3, "port 255");
        crafted(7, 0x010002, 0x010001, 3, "a port of another node");
        ZonedFabric x = loginOnTheWay();
        x.cut(1);
        x.tick(1);
        DUE.is("22: a port that is not up", x.count(3), 1);
    }

    /** With one buffer a port, a buffer that is not empty over several ticks holds one frame all the time. */
    private static void stays() {
        int longest = 0;
        int gone = 0;
        for (int last = 0; last < 8; last++) {
            ZonedFabric x = new ZonedFabric(1, 8, 1);
            x.disc(7);
            for (int n = 0; n < 8; n++) {
                x.wire(0, (n + last) % 8, 16 + n, 0, 1);
            }
            x.tick(20);
            for (int i = 0; i < 4; i++) {
                for (int n = 0; n < 7; n++) {
                    x.write(n, 7, 0, 0, 4, 1L);
                }
            }
            int[] run = new int[8];
            for (int t = 0; t < 250; t++) {
                int before = x.count(4);
                x.tick(1);
                int ended = 0;
                for (int p = 0; p < 8; p++) {
                    ended += run[p] == 24 && x.port(0, p, 1) == 0 ? 1 : 0;
                    run[p] = x.port(0, p, 1) == 0 ? 0 : run[p] + 1;
                    longest = Math.max(longest, run[p]);
                }
                DUE.yes("22: gone in the 25th tick", x.count(4) - before <= ended);
                gone += x.count(4) - before;
            }
        }
        DUE.is("22: none stays in more", longest, 24);
        DUE.yes("22: some are gone", gone > 0);
    }

    private static void fullQueue() {
        ZonedFabric x = new ZonedFabric(1, 8, 1);
        x.disc(0);
        for (int n = 0; n < 8; n++) {
            x.wire(0, n, 16 + n, 0, 1);
        }
        x.tick(20);
        for (int n = 1; n < 8; n++) {
            x.read(n, 0, 0, 0, 4);
        }
        x.tick(110);
        DUE.is("22: no loss yet", x.count(5), 0);
        for (int i = 0; i < 4; i++) {
            for (int n = 1; n < 8; n++) {
                x.read(n, 0, 0, 0, 4);
            }
        }
        int most = 0;
        for (int t = 0; t < 60; t++) {
            int lost = x.count(5);
            x.tick(1);
            most = Math.max(most, x.port(16, 0, 2));
            if (x.count(5) > lost) {
                DUE.yes("22: lost at a full queue", x.port(16, 0, 2) >= 31);
            }
        }
        DUE.is("19: at most 32 in a queue", most, 32);
        DUE.yes("22: more were lost", x.count(5) > 0);
    }

    private static void lostUncounted() {
        ZonedFabric x = small(2);
        x.read(0, 1, 0, 0, 1);
        DUE.is("19: nothing is sent without an address", x.port(16, 0, 2), 0);
        x.tick(10);
        x.cut(0);
        x.read(0, 1, 0, 0, 1);
        DUE.is("19: nor where the port is not up", x.port(16, 0, 2), 0);
        DUE.is("22: which is not counted", x.count(5), 0);
    }

    private static void oneFrameOfABufferATick() {
        ZonedFabric x = small(4);
        x.tick(10);
        for (int i = 0; i < 4; i++) {
            x.read(0, 1, 0, 0, 1);
        }
        DUE.is("19: four in the queue", x.port(16, 0, 2), 4);
        x.tick(1);
        DUE.is("19: one is sent a tick", x.port(16, 0, 2), 3);
        x.tick(1);
        DUE.is("19: TOLD is in the queue", x.port(0, 0, 2), 1);
        x.tick(1);
        DUE.is("19: TOLD is sent, the next comes", x.port(0, 0, 2), 1);
        DUE.is("19: one in the node's queue", x.port(16, 0, 2), 1);
    }

    /** Two frames for one port in the same tick: the first in the order from TIME mod 8 on goes, the other stays. */
    private static void portsGoRound() {
        for (int wait = 0; wait < 8; wait++) {
            ZonedFabric x = new ZonedFabric(1, 3, 4);
            x.disc(2);
            x.wire(0, 2, 16, 0, 1);
            x.wire(0, 5, 17, 0, 1);
            x.wire(0, 7, 18, 0, 1);
            x.tick(20 + wait);
            x.read(0, 2, 0, 0, 1);
            x.read(1, 2, 0, 0, 1);
            x.tick(5);
            int start = x.count(0) % 8;
            boolean second = start > 2 && start <= 5;
            DUE.is("10: both are there", x.count(7), 1);
            DUE.is("10: port 2 at " + start, x.port(0, 2, 1), second ? 1 : 0);
            DUE.is("10: port 5 at " + start, x.port(0, 5, 1), second ? 0 : 1);
            DUE.is("10: what went", x.frame(2, 0, 4) >>> 40, second ? 0x010502 : 0x010201);
        }
    }
}
