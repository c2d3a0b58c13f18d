import java.util.zip.CRC32;

/** Promises 9 and 21: frames on the way, their bytes, what a flip does, and which frames are TRUE. */
public final class FramesTest {
    private static final Due DUE = new Due();

    public static void main(String[] args) {
        bytesOfFrames();
        frameEdges();
        flips();
        flipBackIsTrue();
        flippedAtANode();
        forms();
        recordForms();
        DUE.end();
    }

    private static void bytesOfFrames() {
        ZonedFabric x = new ZonedFabric(2, 2, 2);
        x.wire(0, 3, 1, 5, 4);
        x.wire(0, 2, 17, 0, 1);
        x.tick(1);
        DUE.is("21: HELLO of switch 0", x.frame(0, 0, 0), 0x01FFFFFDFFFFFD00L);
        DUE.is("21: its OX, RX, PART, n, LOAD", x.frame(0, 0, 8) >>> 16, 0x000000000100L);
        DUE.is("21: HELLO of switch 1", x.frame(0, 1, 6) >>> 8, 0xFD000000000001L);
        DUE.is("21: its LOAD", x.frame(0, 1, 13) >>> 56, 1);
        DUE.is("21: FLOGI", x.frame(1, 1, 0), 0x03FFFFFE00000000L);
        DUE.is("21: no frame", x.frame(1, 0, 0), 0);
        CRC32 crc = new CRC32();
        crc.update(new byte[] {1, -1, -1, -3, -1, -1, -3, 0, 0, 0, 0, 0, 1, 0});
        DUE.is("21: CHECK", x.frame(0, 0, 14), crc.getValue() << 32);
        x.tick(1);
        DUE.is("21: WELCOME is not sent in the tick of FLOGI", x.frame(1, 0, 0), 0);
        x.tick(1);
        DUE.is("21: WELCOME", x.frame(1, 0, 0), 0x04010202FFFFFE00L);
        DUE.is("21: RECORD", x.frame(0, 0, 0), 0x02FFFFFDFFFFFD00L);
        DUE.is("21: its n, number, issue, domain, neighbours", x.frame(0, 0, 12), 0x0C00000002010103L);
        DUE.is("21: its neighbour, nodes, node", x.frame(0, 0, 20) >>> 24, 0x0104010102L);
    }

    private static void frameEdges() {
        ZonedFabric x = new ZonedFabric(1, 1, 1);
        x.wire(0, 0, 16, 0, 1);
        x.tick(1);
        long all = x.frame(0, 1, 10);
        DUE.is("21: the last byte alone", x.frame(0, 1, 17), all << 56);
        DUE.is("21: behind the end", x.frame(0, 1, 18), 0);
        int[][] none = {{0, 1, -1}, {0, 2, 0}, {0, -1, 0}, {1, 1, 0}, {-1, 1, 0}, {0, 1, Integer.MIN_VALUE},
            {0, 1, Integer.MAX_VALUE}, {0, 1, Integer.MAX_VALUE - 7}, {Integer.MAX_VALUE, 0, 0}, {0, 0, 0}};
        for (int[] w : none) {
            DUE.is("21: frame " + java.util.Arrays.toString(w), x.frame(w[0], w[1], w[2]), 0);
        }
        x.tick(1);
        DUE.is("21: it has arrived", x.frame(0, 1, 0), 0);
    }

    private static void flips() {
        ZonedFabric x = new ZonedFabric(1, 1, 1);
        DUE.no("9: no wire", x.flip(0, 0, 0));
        x.wire(0, 0, 16, 0, 1);
        DUE.no("9: no frame", x.flip(0, 1, 0));
        x.tick(1);
        int[][] none = {{0, 0, 0}, {0, 1, -1}, {0, 1, 144}, {0, 2, 0}, {0, -1, 0}, {1, 1, 0}, {-1, 1, 0},
            {0, 1, Integer.MAX_VALUE}, {0, 1, Integer.MIN_VALUE}, {Integer.MIN_VALUE, 1, 0}, {0, Integer.MAX_VALUE, 0}};
        long before = x.frame(0, 1, 0);
        for (int[] f : none) {
            DUE.no("9: flip " + java.util.Arrays.toString(f), x.flip(f[0], f[1], f[2]));
        }
        DUE.is("9: refused flips change nothing", x.frame(0, 1, 0), before);
        DUE.yes("9: the lowest bit", x.flip(0, 1, 0));
        DUE.is("9: of the first byte", x.frame(0, 1, 0), before ^ 1L << 56);
        DUE.yes("9: the highest bit of the second byte", x.flip(0, 1, 15));
        DUE.is("9: both", x.frame(0, 1, 0), before ^ 1L << 56 ^ 1L << 55);
        long last = x.frame(0, 1, 17);
        DUE.yes("9: the last bit", x.flip(0, 1, 143));
        DUE.is("9: it is the last", x.frame(0, 1, 17), last ^ 1L << 63);
        DUE.is("10: it arrives all the same", x.tick(1), 1);
        DUE.is("22: not TRUE", x.count(1), 1);
        x.tick(3);
        DUE.is("9: no WELCOME", x.address(0), 0);
        DUE.is("9: the credit came back", x.port(16, 0, 0), 1);
        x.tick(25);
        DUE.is("9: nothing till the next FLOGI", x.address(0), 0);
        x.tick(5);
        DUE.is("9: which is not lost", x.address(0), 0x010001);
    }

    private static void flipBackIsTrue() {
        for (int bit = 0; bit < 144; bit++) {
            ZonedFabric x = new ZonedFabric(1, 1, 1);
            x.wire(0, 0, 16, 0, 1);
            x.tick(1);
            x.flip(0, 1, bit);
            if (bit % 2 == 0) {
                x.flip(0, 1, bit);
            }
            x.tick(3);
            DUE.is("9: bit " + bit, x.address(0), bit % 2 == 0 ? 0x010001 : 0);
            DUE.is("22: bit " + bit, x.count(1), bit % 2);
        }
    }

    private static void flippedAtANode() {
        ZonedFabric x = new ZonedFabric(1, 1, 1);
        x.wire(0, 0, 16, 0, 1);
        x.tick(3);
        DUE.yes("9: a flip of WELCOME", x.flip(0, 0, 31));
        x.tick(1);
        DUE.is("22: not TRUE at a node", x.count(1), 1);
        DUE.is("9: no address", x.address(0), 0);
        x.tick(29);
        DUE.become(x, 0, 0, FabricModel.make(4, 0x123456, 0xFFFFFE, 0, 0, 0));
        x.tick(1);
        DUE.is("20: whatever TO", x.address(0), 0x123456);
        DUE.is("22: that was TRUE", x.count(1), 1);
        x.tick(89);
        DUE.become(x, 0, 0, FabricModel.make(4, 0x123457, 0xFFFFFC, 0, 0, 0));
        x.tick(1);
        DUE.is("20: FROM FFFFFE alone", x.address(0), 0x123456);
    }

    /** Whether a frame with that KIND and LOAD is TRUE where it arrives. */
    private static void form(boolean isTrue, int kind, int... load) {
        ZonedFabric x = new ZonedFabric(2, 3, 4);
        x.disc(1);
        x.wire(0, 0, 1, 0, 3);
        x.wire(0, 1, 16, 0, 1);
        if (load.length != 13) {
            x.wire(1, 1, 17, 0, 1);
        }
        x.wire(0, 2, 1, 2, 3);
        for (int t = 0; t < 60; t++) {
            if (t == 20) {
                x.write(0, 1, 0, 0, 1, 5L);
            }
            x.tick(1);
            for (int w = 0; w < 8; w++) {
                int[] now = Due.bytesOf(x, w / 2, w % 2);
                if (now != null && now.length == 17 + load.length) {
                    DUE.become(x, w / 2, w % 2, FabricModel.make(kind, 0x0F0001, 0x0F0001, 0, 0, 0, load));
                    x.tick(1);
                    DUE.is("22: KIND " + kind + " LOAD " + java.util.Arrays.toString(load), x.count(1), isTrue ? 0 : 1);
                    return;
                }
            }
        }
        DUE.yes("a frame with a LOAD of " + load.length, false);
    }

    private static void forms() {
        int[] none = {};
        int[] eight = {0, 0, 0, 0, 0, 0, 0, 0};
        for (int kind : new int[] {1, 2, 3, 5, 6, 7, 9, 10, 11, 12}) {
            form(false, kind, none);
            form(kind == 11, kind, eight);
        }
        for (int kind : new int[] {0, 4, 8, 13, 14, 15, 255}) {
            form(true, kind, none);
            form(true, kind, 255);
            form(true, kind, 255, 255, 255, 255);
            form(true, kind, eight);
        }
        form(true, 1, 1);
        form(false, 1, 2);
        form(false, 1, 255);
        form(false, 1, 0, 0, 0, 0);
        for (int kind : new int[] {3, 5, 7}) {
            form(true, kind, 2);
            form(false, kind, 3);
            form(false, kind, 0, 0, 0, 0);
        }
        form(true, 6, 2, 0, 0, 0);
        form(true, 6, 2, 1, 0, 3);
        form(true, 6, 2, 0, 0, 3);
        form(false, 6, 2, 1, 0, 0);
        form(false, 6, 2, 0, 1, 0);
        form(false, 6, 2, 0, 0, 2);
        form(false, 6, 3, 0, 0, 0);
        form(false, 6, 3, 0, 0, 4);
        form(false, 6, 0);
        form(true, 9, 255, 0, 255, 255);
        form(true, 9, 255, 1, 255, 255);
        form(false, 9, 0, 2, 0, 1);
        form(false, 9, 0);
        form(true, 10, 255);
        form(false, 10, 0, 0, 0, 0);
        form(false, 11, 0);
        form(false, 11, 0, 0, 0, 0);
        form(true, 12, 0);
        form(true, 12, 1);
        form(false, 12, 2);
        form(false, 12, 0, 0, 0, 0);
        wrongSize();
    }

    private static void wrongSize() {
        for (int n : new int[] {0, 1, 2, 255}) {
            ZonedFabric x = new ZonedFabric(1, 1, 1);
            x.wire(0, 0, 16, 0, 1);
            x.tick(1);
            int[] frame = FabricModel.make(0, 0x0F0001, 0x0F0001, 0, 0, 0, 9);
            frame[12] = n;
            FabricModel.setCheck(frame);
            DUE.become(x, 0, 1, frame);
            x.tick(1);
            DUE.is("22: n " + n + " of 1", x.count(1), n == 1 ? 0 : 1);
        }
    }

    private static void recordForms() {
        int[] good = {1, 0, 0, 0, 15, 2, 0, 0, 1, 7, 1, 9, 1, 2, 7};
        form(true, 2, good);
        int[][] bad = {{0, 2}, {0, 255}, {4, 0}, {4, 16}, {5, 1}, {5, 0}, {5, 3}, {5, 255}, {6, 7}, {6, 8}, {7, 2}, {8, 0},
            {8, 10}, {9, 0}, {9, 8}, {10, 2}, {11, 0}, {11, 10}, {12, 0}, {12, 2}, {12, 255}, {13, 3}, {14, 8}};
        for (int[] b : bad) {
            int[] load = good.clone();
            load[b[0]] = b[1];
            form(false, 2, load);
        }
        int[][] right = {{0, 0}, {1, 255}, {2, 255}, {3, 255}, {4, 1}, {6, 6}, {7, 1}, {8, 9}, {9, 1}, {11, 1}, {13, 0}, {14, 0}};
        for (int[] r : right) {
            int[] load = good.clone();
            load[r[0]] = r[1];
            form(true, 2, load);
        }
        // three nodes alone are as long as two neighbours
        form(true, 2, 0, 0, 0, 0, 1, 0, 3, 0, 0, 1, 1, 2, 7);
        form(false, 2, 0, 0, 0, 0, 1, 0, 3, 0, 0, 1, 1, 0, 7);
        form(false, 2, 0, 0, 0, 0, 1, 0, 3, 0, 0, 1, 0, 2, 7);
        form(false, 2, 0, 0, 0, 0, 1, 0, 3, 0, 5, 1, 3, 2, 7);
    }
}
