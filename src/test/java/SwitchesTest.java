/** Promises 17 and 18: records, ways, and switches that are OFF. */
public final class SwitchesTest {
    private static final Due DUE = new Due();

    public static void main(String[] args) {
        wrongAsks();
        helloAndRecords();
        helloTimes();
        helloThatIsGone();
        recordsGoOn();
        recordsAtAHello();
        recordsGrowOld();
        oldRecordsMakeNoWays();
        greatIssues();
        takenAtASwitchsPort();
        oneEndIsNotEnough();
        olderIssues();
        leastSums();
        parallelWires();
        eightNeighbours();
        waysGoBothWays();
        offAndOnAgain();
        lowestHasTheDomain();
        toldAddresses();
        DUE.end();
    }

    private static void wrongAsks() {
        ZonedFabric x = new ZonedFabric(2, 1, 1);
        x.tick(1);
        int[][] ways = {{-1, 1}, {2, 1}, {0, 0}, {0, 16}, {0, -1}, {0, 2}, {0, 15}, {Integer.MAX_VALUE, 1},
            {Integer.MIN_VALUE, 1}, {0, Integer.MAX_VALUE}, {0, Integer.MIN_VALUE}};
        for (int[] w : ways) {
            DUE.is("17: way " + w[0] + " " + w[1], x.way(w[0], w[1]), -1);
        }
        int[][] records = {{-1, 0, 0}, {2, 0, 0}, {0, -1, 0}, {0, 2, 0}, {0, 1, 0}, {0, 0, -1}, {0, 0, 5},
            {Integer.MAX_VALUE, 0, 0}, {0, Integer.MIN_VALUE, 0}, {0, 0, Integer.MAX_VALUE}};
        for (int[] r : records) {
            DUE.is("18: record " + java.util.Arrays.toString(r), x.record(r[0], r[1], r[2]), -1);
        }
        record(x, 1, 1, 1, 2, 0, 0, 1);
        DUE.is("17: its own", x.way(1, 2), 8);
    }

    private static void record(ZonedFabric x, int s, int r, int... due) {
        for (int what = 0; what < due.length; what++) {
            DUE.is("18: record(" + s + ", " + r + ", " + what + ") at " + x.count(0), x.record(s, r, what), due[what]);
        }
    }

    private static void helloAndRecords() {
        ZonedFabric x = new ZonedFabric(2, 1, 2);
        x.wire(0, 0, 1, 3, 1);
        x.wire(1, 4, 16, 0, 1);
        x.tick(1);
        record(x, 0, 0, 1, 1, 0, 0, 1);
        DUE.is("19: no neighbour yet", x.port(0, 0, 3), -1);
        DUE.is("17: no way yet", x.way(0, 2), -1);
        x.tick(1);
        DUE.is("19: a neighbour", x.port(0, 0, 3), 1);
        DUE.is("19: at the other end", x.port(1, 3, 3), 0);
        record(x, 0, 0, 1, 1, 0, 0, 1);
        x.tick(1);
        record(x, 0, 0, 2, 1, 1, 0, 3);
        record(x, 1, 1, 2, 2, 1, 1, 3);
        DUE.is("18: none of the other", x.record(0, 1, 0), -1);
        x.tick(1);
        record(x, 0, 1, 2, 2, 1, 1, 4);
        record(x, 1, 0, 2, 1, 1, 0, 4);
        DUE.is("17: a way", x.way(0, 2), 0);
        DUE.is("17: at the other end", x.way(1, 1), 3);
        DUE.is("22: issued", x.count(8), 4);
        x.tick(38);
        record(x, 0, 0, 2, 1, 1, 0, 3);
        DUE.is("22: issued no more till the 40th tick", x.count(8), 4);
        x.tick(1);
        record(x, 0, 0, 3, 1, 1, 0, 43);
        record(x, 0, 1, 2, 2, 1, 1, 4);
        x.tick(1);
        record(x, 0, 1, 3, 2, 1, 1, 44);
        DUE.is("22: issued", x.count(8), 6);
        x.tick(40);
        record(x, 0, 0, 4, 1, 1, 0, 83);
    }

    private static void helloTimes() {
        ZonedFabric x = new ZonedFabric(2, 1, 2);
        x.tick(4);
        x.wire(0, 0, 1, 0, 1);
        int[] seen = new int[2];
        for (int t = 5; t <= 60; t++) {
            x.tick(1);
            for (int side = 0; side < 2; side++) {
                int[] frame = Due.bytesOf(x, 0, side);
                if (frame != null && frame[0] == 1) {
                    DUE.is("19: HELLO of " + side, t, 5 + 11 * seen[side]);
                    x.flip(0, side, 40);
                    seen[side]++;
                }
            }
        }
        DUE.is("19: HELLOs that are gone come again", seen[0], 6);
        DUE.is("19: neighbour", x.port(0, 0, 3), -1);
    }

    private static void helloThatIsGone() {
        ZonedFabric x = new ZonedFabric(2, 1, 2);
        x.wire(0, 0, 1, 0, 1);
        x.tick(1);
        x.flip(0, 0, 0);
        x.tick(60);
        DUE.is("19: one end has its neighbour", x.port(0, 0, 3), 1);
        DUE.is("19: the other end has none", x.port(1, 0, 3), -1);
        DUE.is("18: it keeps the record", x.record(1, 0, 2), 1);
        DUE.is("18: and gives none", x.record(0, 1, 0), -1);
        DUE.is("17: no way", x.way(0, 2), -1);
        DUE.is("17: no way back", x.way(1, 1), -1);
        x.cut(0);
        x.join(0);
        x.tick(10);
        DUE.is("19: both have one", x.port(1, 0, 3), 0);
        DUE.is("17: a way", x.way(0, 2), 0);
        DUE.is("17: a way back", x.way(1, 1), 0);
    }

    private static ZonedFabric row(int switches) {
        ZonedFabric x = new ZonedFabric(switches, 2, 2);
        for (int s = 0; s + 1 < switches; s++) {
            x.wire(s, 1, s + 1, 0, 1);
        }
        return x;
    }

    private static void recordsGoOn() {
        ZonedFabric x = row(5);
        x.tick(30);
        for (int s = 0; s < 5; s++) {
            for (int r = 0; r < 5; r++) {
                DUE.is("17: way(" + s + ", " + (r + 1) + ")", x.way(s, r + 1), r == s ? 8 : r < s ? 0 : 1);
                DUE.is("18: neighbours told", x.record(s, r, 2), r == 0 || r == 4 ? 1 : 2);
            }
        }
        x.domain(4, 9);
        x.tick(1);
        DUE.is("18: issued in 31", x.record(4, 4, 4), 31);
        x.tick(1);
        DUE.is("18: kept in 32", x.record(3, 4, 4), 32);
        x.tick(2);
        DUE.is("18: a switch farther, two ticks later", x.record(2, 4, 4), 34);
        x.tick(2);
        DUE.is("18: a switch farther, two ticks later", x.record(1, 4, 4), 36);
        x.tick(2);
        DUE.is("18: a switch farther, two ticks later", x.record(0, 4, 4), 38);
        DUE.is("18: its domain", x.record(0, 4, 1), 9);
        DUE.is("17: way to it", x.way(0, 9), 1);
        DUE.is("17: the old one has none", x.way(0, 5), -1);
    }

    private static void recordsAtAHello() {
        ZonedFabric x = new ZonedFabric(4, 1, 4);
        x.wire(0, 1, 1, 0, 1);
        x.wire(1, 1, 2, 0, 1);
        x.tick(20);
        x.wire(2, 1, 3, 0, 1);
        x.tick(2);
        DUE.is("19: neighbour, and two records in the queue", x.port(2, 1, 2), 2);
        DUE.is("19: none in the other one's", x.port(3, 0, 2), 0);
        x.tick(1);
        DUE.is("19: one sent, its own behind", x.port(2, 1, 2), 2);
        x.tick(3);
        DUE.is("18: the record of 0", x.record(3, 0, 4), 24);
        DUE.is("18: the record of 1", x.record(3, 1, 4), 25);
        DUE.is("18: the record of 2", x.record(3, 2, 4), 26);
        DUE.is("17: way", x.way(3, 1), 0);
    }

    private static void recordsGrowOld() {
        ZonedFabric x = row(3);
        x.tick(30);
        int kept = x.record(0, 2, 4);
        DUE.is("18: kept", kept, x.record(1, 2, 4) + 2);
        x.cut(1);
        x.tick(10);
        DUE.is("17: no way", x.way(0, 3), -1);
        DUE.is("18: but kept", x.record(0, 2, 4), kept);
        x.tick(kept + 149 - x.count(0));
        DUE.is("18: still kept", x.record(0, 2, 4), kept);
        x.tick(1);
        DUE.is("18: kept no more", x.record(0, 2, 4), -1);
        DUE.yes("18: that of 1 is, which came anew", x.record(0, 1, 4) > 150);
        DUE.is("18: its own is not that old", x.record(2, 2, 2), 0);
    }

    private static void oldRecordsMakeNoWays() {
        ZonedFabric x = row(2);
        x.tick(20);
        int kept = x.record(0, 1, 4);
        DUE.is("18: kept", kept, 4);
        for (int t = x.count(0); t < kept + 149; t++) {
            x.tick(1);
            x.flip(0, 1, 20);
        }
        DUE.is("17: way while it is kept", x.way(0, 2), 1);
        x.tick(1);
        DUE.is("18: kept no more", x.record(0, 1, 0), -1);
        DUE.is("17: no way", x.way(0, 2), -1);
        DUE.is("17: the other end has one", x.way(1, 1), 0);
    }

    private static void greatIssues() {
        ZonedFabric x = row(2);
        for (int i = 0; i < 40; i++) {
            x.tick(300);
        }
        DUE.is("18: own issue, every 40 ticks since 3", x.record(0, 0, 0), 2 + (12000 - 3) / 40);
        DUE.is("18: as the other keeps it", x.record(1, 0, 0), 2 + (12000 - 3) / 40);
        DUE.is("22: issued", x.count(8), 2 * x.record(0, 0, 0));
    }

    /** The first HELLO of switch 0 comes as something else. */
    private static void takenAtASwitchsPort() {
        int[][] others = {{10, 0xFFFFFD}, {255, 0xFFFFFD}, {1, 0xFFFFFE}, {1, 0xFFFFFC}, {3, 0xFFFFFE}, {5, 0xFFFFFC}};
        for (int[] other : others) {
            ZonedFabric x = row(2);
            x.tick(1);
            DUE.become(x, 0, 0, FabricModel.make(other[0], other[1], 0xFFFFFD, 0, 0, 0, 0));
            x.tick(1);
            DUE.is("19: no neighbour by KIND " + other[0], x.port(1, 0, 3), -1);
            DUE.is("18: no record", x.record(1, 0, 0), -1);
            DUE.is("19: nothing in the queue", x.port(1, 0, 2), 0);
            DUE.is("19: nothing in the buffers", x.port(1, 0, 1), 0);
            for (int i = 1; i <= 5; i++) {
                DUE.is("22: not counted", x.count(i), 0);
            }
        }
    }

    /** 2 has not heard the HELLO of 1, which tells of it: these two are not joined. */
    private static void oneEndIsNotEnough() {
        ZonedFabric x = new ZonedFabric(3, 1, 2);
        x.wire(0, 1, 1, 0, 1);
        x.wire(1, 1, 2, 0, 1);
        x.wire(0, 2, 2, 1, 9);
        x.tick(1);
        x.flip(1, 0, 3);
        x.tick(60);
        DUE.is("19: 1 has a neighbour", x.port(1, 1, 3), 2);
        DUE.is("19: 2 has none", x.port(2, 0, 3), -1);
        DUE.is("18: 1 tells two", x.record(0, 1, 2), 2);
        DUE.is("17: by the dear wire", x.way(0, 3), 2);
        DUE.is("17: from 1 by 0", x.way(1, 3), 0);
        DUE.is("17: from 2 by 0", x.way(2, 2), 1);
    }

    private static void olderIssues() {
        int[][] loads = {
            {1, 0, 0, 2, 7, 1, 0, 0, 1, 0}, // the issue that is kept
            {1, 0, 0, 1, 7, 1, 0, 0, 1, 0}, // an older one
            {2, 0, 0, 0, 7, 1, 0, 0, 1, 0}, // issue 0 of one that is not kept
            {0, 0, 9, 9, 7, 1, 0, 0, 1, 0}, // of the switch itself
        };
        for (int[] load : loads) {
            ZonedFabric x = new ZonedFabric(3, 1, 4);
            x.wire(0, 0, 1, 0, 1);
            x.tick(43);
            DUE.become(x, 0, 1, FabricModel.make(2, 0xFFFFFD, 0xFFFFFD, 0, 0, 0, load));
            x.tick(1);
            DUE.is("18: the kept one stays", x.record(0, 1, 1), 2);
            DUE.is("18: none of 2", x.record(0, 2, 0), -1);
            DUE.is("18: its own stays", x.record(0, 0, 1), 1);
            DUE.is("22: it was TRUE", x.count(1), 0);
        }
        ZonedFabric x = new ZonedFabric(3, 1, 4);
        x.wire(0, 0, 1, 0, 1);
        x.tick(43);
        DUE.become(x, 0, 1, FabricModel.make(2, 0xFFFFFD, 0xFFFFFD, 0, 0, 0, 1, 255, 0, 0, 7, 1, 0, 0, 1, 0));
        x.tick(1);
        DUE.is("18: a greater one is kept", x.record(0, 1, 0), 0xFF0000);
        DUE.is("18: its domain", x.record(0, 1, 1), 7);
        DUE.is("17: way by it", x.way(0, 7), 0);
        DUE.is("18: when", x.record(0, 1, 4), x.count(0));
    }

    private static void leastSums() {
        ZonedFabric x = new ZonedFabric(4, 1, 2);
        x.wire(0, 0, 3, 0, 9);
        x.wire(0, 1, 1, 0, 2);
        x.wire(1, 1, 2, 0, 3);
        x.wire(2, 1, 3, 1, 3);
        x.tick(40);
        DUE.is("17: round is nearer", x.way(0, 4), 1);
        DUE.is("17: and back", x.way(3, 1), 1);
        x.cut(2);
        x.tick(20);
        DUE.is("17: straight is left", x.way(0, 4), 0);
        DUE.is("17: by the far one", x.way(0, 3), 0);
        x.join(2);
        x.tick(20);
        DUE.is("17: round again", x.way(0, 4), 1);
        ZonedFabric y = new ZonedFabric(3, 1, 2);
        y.wire(0, 5, 2, 0, 4);
        y.wire(0, 2, 1, 0, 2);
        y.wire(1, 1, 2, 1, 2);
        y.tick(40);
        DUE.is("17: of equal sums the least port", y.way(0, 3), 2);
        DUE.is("17: there, too", y.way(2, 1), 0);
    }

    private static void parallelWires() {
        ZonedFabric x = new ZonedFabric(2, 1, 2);
        x.wire(0, 1, 1, 6, 5);
        x.wire(0, 2, 1, 5, 3);
        x.wire(0, 4, 1, 2, 3);
        x.tick(20);
        DUE.is("18: three neighbours", x.record(0, 0, 2), 3);
        DUE.is("17: the cheaper, then the least port", x.way(0, 2), 2);
        DUE.is("17: at the other end", x.way(1, 1), 2);
        x.cut(1);
        x.tick(5);
        DUE.is("17: the next", x.way(0, 2), 4);
        x.cut(2);
        x.tick(5);
        DUE.is("17: the last", x.way(0, 2), 1);
    }

    private static void eightNeighbours() {
        ZonedFabric x = new ZonedFabric(2, 1, 2);
        for (int p = 0; p < 8; p++) {
            x.wire(0, p, 1, 7 - p, 9 - p);
        }
        x.tick(20);
        record(x, 0, 0, 2, 1, 8, 0, 3);
        record(x, 1, 0, 2, 1, 8, 0, 4);
        DUE.is("17: the cheapest", x.way(0, 2), 7);
        DUE.is("17: at the other end", x.way(1, 1), 0);
        DUE.is("22: nothing gone", x.count(1) + x.count(5), 0);
    }

    private static void waysGoBothWays() {
        ZonedFabric x = row(3);
        x.tick(40);
        x.cut(1);
        x.tick(1);
        DUE.is("17: 0 does not know yet", x.way(0, 3), 1);
        x.tick(1);
        DUE.is("17: now it does, as 1 tells of 2 no more", x.way(0, 3), -1);
        DUE.is("18: though it keeps 2's, which tells of 1", x.record(0, 2, 2), 1);
    }

    private static void offAndOnAgain() {
        ZonedFabric x = row(2);
        x.disc(1);
        x.wire(0, 7, 16, 0, 1);
        x.wire(1, 7, 17, 0, 1);
        x.tick(20);
        DUE.is("20: address ahead", x.address(1), 0x020702);
        x.domain(1, 1);
        x.tick(1);
        DUE.is("18: the node is told no more", x.record(1, 1, 3), 0);
        x.tick(1);
        DUE.is("20: no address", x.address(1), 0);
        DUE.is("17: the way of a switch that is OFF", x.way(1, 1), 0);
        DUE.is("17: the lower one is not", x.way(0, 1), 8);
        DUE.is("17: none to the old domain", x.way(0, 2), -1);
        x.tick(100);
        DUE.is("20: FLOGI has no answer", x.address(1), 0);
        DUE.is("20: the other's stays", x.address(0), 0x010701);
        x.cut(0);
        x.tick(1);
        DUE.is("17: it reaches none, and is not OFF", x.way(1, 1), 8);
        x.tick(35);
        DUE.is("20: FLOGI has an answer", x.address(1), 0x010702);
        x.join(0);
        x.tick(10);
        DUE.is("20: OFF again", x.address(1), 0);
        x.domain(0, 5);
        x.tick(40);
        DUE.is("20: the lower one has another", x.address(0), 0x050701);
        DUE.is("20: so it is not OFF", x.address(1), 0x010702);
        DUE.is("17: way", x.way(0, 1), 1);
        DUE.is("17: way", x.way(1, 5), 0);
    }

    private static void lowestHasTheDomain() {
        ZonedFabric x = row(4);
        x.domain(3, 2);
        x.tick(40);
        DUE.is("17: 2's way goes to 1, not to 3", x.way(2, 2), 0);
        DUE.is("17: 1 is on", x.way(1, 2), 8);
        DUE.is("17: 3 is OFF", x.way(3, 2), 0);
        x.cut(1);
        x.tick(10);
        DUE.is("17: now 2's way goes to 3", x.way(2, 2), 1);
        DUE.is("17: 3 is on", x.way(3, 2), 8);
    }

    private static int told(ZonedFabric x, int node) {
        x.read(0, 2, 0, 0, 1);
        x.tick(1);
        DUE.become(x, 0, 1, FabricModel.make(5, 0xFFFFFC, x.address(0), 7, 0, 0, node));
        x.tick(2);
        DUE.is("20: TOLD", x.frame(0, 0, 0), 0x06L << 56 | (long) x.address(0) << 32 | 0xFFFFFC00L);
        DUE.is("20: its OX, RX, PART, n, node", x.frame(0, 0, 7) >>> 8, 0x0000000000000400L | node);
        int answer = (int) (x.frame(0, 0, 14) >>> 40);
        x.flip(0, 0, 0);
        x.tick(1);
        x.cut(0);
        x.join(0);
        x.tick(140);
        return answer;
    }

    private static void toldAddresses() {
        ZonedFabric x = new ZonedFabric(2, 4, 2);
        x.disc(2);
        x.wire(0, 0, 16, 0, 1);
        x.wire(0, 1, 1, 1, 1);
        x.wire(1, 6, 18, 0, 1);
        x.wire(0, 5, 17, 0, 1);
        x.tick(20);
        DUE.is("20: of another switch", told(x, 2), 0x020603);
        DUE.is("20: of the same one", told(x, 1), 0x010502);
        DUE.is("20: of none", told(x, 3), 0);
        DUE.is("20: its own", told(x, 0), 0x010001);
        x.cut(1);
        DUE.is("20: of one that is not reached", told(x, 2), 0);
        x.join(1);
        x.tick(20);
        DUE.is("20: reached again", told(x, 2), 0x020603);
        x.domain(1, 1);
        x.tick(10);
        DUE.is("20: of one that is OFF", told(x, 2), 0);
        x.domain(1, 7);
        x.tick(40);
        DUE.is("20: the new one", told(x, 2), 0x070603);
        x.zoning(true);
        DUE.is("20: no common zone", told(x, 2), 0);
        x.zone(0, 0, true);
        x.zone(0, 2, true);
        DUE.is("20: a common zone", told(x, 2), 0x070603);
    }
}
