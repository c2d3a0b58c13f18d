/** Counts what was not as due, and ends the test with it; and turns frames on the way into others. */
final class Due {
    private final boolean loud;
    private int asked = 0;
    private int wrong = 0;

    Due() {
        this(true);
    }

    Due(boolean loud) {
        this.loud = loud;
    }

    void is(String what, long got, long want) {
        asked++;
        if (got != want) {
            wrong++;
            if (loud) {
                System.out.println(what + " answered " + got + ", due is " + want);
            }
        }
    }

    void yes(String what, boolean got) {
        is(what, got ? 1 : 0, 1);
    }

    void no(String what, boolean got) {
        is(what, got ? 1 : 0, 0);
    }

    int asked() {
        return asked;
    }

    int wrong() {
        return wrong;
    }

    /** All bytes of the frame on the way, or null. */
    static int[] bytesOf(ZonedFabric x, int wire, int side) {
        int[] head = bytesOf(x, wire, side, 13);
        return head[0] == 0 ? null : bytesOf(x, wire, side, 17 + head[12]);
    }

    private static int[] bytesOf(ZonedFabric x, int wire, int side, int size) {
        int[] bytes = new int[size];
        long eight = 0;
        for (int i = 0; i < size; i++) {
            eight = i % 8 == 0 ? x.frame(wire, side, i) : eight << 8;
            bytes[i] = (int) (eight >>> 56);
        }
        return bytes;
    }

    /** Whether the frame on the way has these bytes, and no more. */
    void frame(String what, ZonedFabric x, int wire, int side, int[] wanted) {
        int[] now = bytesOf(x, wire, side, wanted.length + 1);
        for (int i = 0; i < wanted.length; i++) {
            is(what + ", byte " + i, now[i], wanted[i]);
        }
        is(what + ", behind its end", now[wanted.length], 0);
    }

    /** Flips the frame on the way into another one of the same length. */
    void become(ZonedFabric x, int wire, int side, int[] wanted) {
        int[] now = bytesOf(x, wire, side, wanted.length);
        for (int bit = 0; bit < 8 * wanted.length; bit++) {
            if (((now[bit / 8] ^ wanted[bit / 8]) >> bit % 8 & 1) == 1) {
                yes("9: flip(" + wire + ", " + side + ", " + bit + ")", x.flip(wire, side, bit));
            }
        }
        frame("9: what it was flipped into", x, wire, side, wanted);
    }

    void end() {
        System.out.println(asked + " answers, " + wrong + " wrong");
        if (wrong > 0 || asked == 0) {
            System.exit(1);
        }
    }
}
