import java.util.zip.CRC32;

/** Promises 9 and 21: frames on the way, their bytes, and what a flip does. */
public final class FramesTest {
    private static final Due DUE = new Due();

    public static void main(String[] args) {
        bytesOfFrames();
        frameEdges();
        flips();
        flipBackIsTrue();
        flippedAtANode();
        DUE.end();
    }

    private static void bytesOfFrames() {
        ZonedFabric x = new ZonedFabric(2, 2, 2);
        x.wire(0, 3, 1, 5, 4);
        x.wire(0, 2, 17, 0, 1);
        x.tick(1);
        DUE.is("21: HELLO of switch 0", x.frame(0, 0, 0), 0x01FFFFFDFFFFFD00L);
        DUE.is("21: its OX, RX, PART, n, LOAD", x.frame(0, 0, 8) >>> 16, 0x000000000100L);
        DUE.is("21: HELLO of switch 1", x.frame(0, 1, 6) >>> 8, 0xFD000000000001L);
        DUE.is("21: its LOAD", x.frame(0, 1, 13) >>> 56, 1);
        DUE.is("21: FLOGI", x.frame(1, 1, 0), 0x03FFFFFE00000000L);
        DUE.is("21: no frame", x.frame(1, 0, 0), 0);
        CRC32 crc = new CRC32();
        crc.update(new byte[] {1, -1, -1, -3, -1, -1, -3, 0, 0, 0, 0, 0, 1, 0});
        DUE.is("21: CHECK", x.frame(0, 0, 14), crc.getValue() << 32);
        x.tick(1);
        DUE.is("21: WELCOME is not sent in the tick of FLOGI", x.frame(1, 0, 0), 0);
        x.tick(1);
        DUE.is("21: WELCOME", x.frame(1, 0, 0), 0x04010202FFFFFE00L);
        DUE.is("21: RECORD", x.frame(0, 0, 0), 0x02FFFFFDFFFFFD00L);
        DUE.is("21: its n, number, issue, domain, neighbours", x.frame(0, 0, 12), 0x0C00000002010103L);
        DUE.is("21: its neighbour, nodes, node", x.frame(0, 0, 20) >>> 24, 0x0104010102L);
    }

    private static void frameEdges() {
        ZonedFabric x = new ZonedFabric(1, 1, 1);
        x.wire(0, 0, 16, 0, 1);
        x.tick(1);
        long all = x.frame(0, 1, 10);
        DUE.is("21: the last byte alone", x.frame(0, 1, 17), all << 56);
        DUE.is("21: behind the end", x.frame(0, 1, 18), 0);
        int[][] none = {{0, 1, -1}, {0, 2, 0}, {0, -1, 0}, {1, 1, 0}, {-1, 1, 0}, {0, 1, Integer.MIN_VALUE},
            {0, 1, Integer.MAX_VALUE}, {0, 1, Integer.MAX_VALUE - 7}, {Integer.MAX_VALUE, 0, 0}, {0, 0, 0}};
        for (int[] w : none) {
            DUE.is("21: frame " + java.util.Arrays.toString(w), x.frame(w[0], w[1], w[2]), 0);
        }
        x.tick(1);
        DUE.is("21: it has arrived", x.frame(0, 1, 0), 0);
    }

    private static void flips() {
        ZonedFabric x = new ZonedFabric(1, 1, 1);
        DUE.no("9: no wire", x.flip(0, 0, 0));
        x.wire(0, 0, 16, 0, 1);
        DUE.no("9: no frame", x.flip(0, 1, 0));
        x.tick(1);
        int[][] none = {{0, 0, 0}, {0, 1, -1}, {0, 1, 144}, {0, 2, 0}, {0, -1, 0}, {1, 1, 0}, {-1, 1, 0},
            {0, 1, Integer.MAX_VALUE}, {0, 1, Integer.MIN_VALUE}, {Integer.MIN_VALUE, 1, 0}, {0, Integer.MAX_VALUE, 0}};
        long before = x.frame(0, 1, 0);
        for (int[] f : none) {
            DUE.no("9: flip " + java.util.Arrays.toString(f), x.flip(f[0], f[1], f[2]));
        }
        DUE.is("9: refused flips change nothing", x.frame(0, 1, 0), before);
        DUE.yes("9: the lowest bit", x.flip(0, 1, 0));
        DUE.is("9: of the first byte", x.frame(0, 1, 0), before ^ 1L << 56);
        DUE.yes("9: the highest bit of the second byte", x.flip(0, 1, 15));
        DUE.is("9: both", x.frame(0, 1, 0), before ^ 1L << 56 ^ 1L << 55);
        long last = x.frame(0, 1, 17);
        DUE.yes("9: the last bit", x.flip(0, 1, 143));
        DUE.is("9: it is the last", x.frame(0, 1, 17), last ^ 1L << 63);
        DUE.is("10: it arrives all the same", x.tick(1), 1);
        DUE.is("22: not TRUE", x.count(1), 1);
        x.tick(3);
        DUE.is("9: no WELCOME", x.address(0), 0);
        DUE.is("9: the credit came back", x.port(16, 0, 0), 1);
        x.tick(25);
        DUE.is("9: nothing till the next FLOGI", x.address(0), 0);
        x.tick(5);
        DUE.is("9: which is not lost", x.address(0), 0x010001);
    }

    private static void flipBackIsTrue() {
        for (int bit = 0; bit < 144; bit++) {
            ZonedFabric x = new ZonedFabric(1, 1, 1);
            x.wire(0, 0, 16, 0, 1);
            x.tick(1);
            x.flip(0, 1, bit);
            if (bit % 2 == 0) {
                x.flip(0, 1, bit);
            }
            x.tick(3);
            DUE.is("9: bit " + bit, x.address(0), bit % 2 == 0 ? 0x010001 : 0);
            DUE.is("22: bit " + bit, x.count(1), bit % 2);
        }
    }

    private static void flippedAtANode() {
        ZonedFabric x = new ZonedFabric(1, 1, 1);
        x.wire(0, 0, 16, 0, 1);
        x.tick(3);
        DUE.yes("9: a flip of WELCOME", x.flip(0, 0, 31));
        x.tick(1);
        DUE.is("22: not TRUE at a node", x.count(1), 1);
        DUE.is("9: no address", x.address(0), 0);
        x.tick(29);
        DUE.become(x, 0, 0, FabricModel.make(4, 0x123456, 0xFFFFFE, 0, 0, 0));
        x.tick(1);
        DUE.is("20: whatever TO", x.address(0), 0x123456);
        DUE.is("22: that was TRUE", x.count(1), 1);
        x.tick(89);
        DUE.become(x, 0, 0, FabricModel.make(4, 0x123457, 0xFFFFFC, 0, 0, 0));
        x.tick(1);
        DUE.is("20: FROM FFFFFE alone", x.address(0), 0x123456);
    }
}
