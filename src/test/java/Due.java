/** Counts what was not as due, and ends the test with it; and turns frames on the way into others. */
final class Due {
    private int asked = 0;
    private int wrong = 0;

    void is(String what, long got, long want) {
        asked++;
        if (got != want) {
            wrong++;
            System.out.println(what + " answered " + got + ", due is " + want);
        }
    }

    void yes(String what, boolean got) {
        is(what, got ? 1 : 0, 1);
    }

    void no(String what, boolean got) {
        is(what, got ? 1 : 0, 0);
    }

    /** All bytes of the frame on the way, or null. */
    static int[] bytesOf(ZonedFabric x, int wire, int side) {
        int[] head = bytesOf(x, wire, side, 13);
        return head[0] == 0 ? null : bytesOf(x, wire, side, 17 + head[12]);
    }

    private static int[] bytesOf(ZonedFabric x, int wire, int side, int size) {
        int[] bytes = new int[size];
        for (int i = 0; i < size; i++) {
            bytes[i] = (int) (x.frame(wire, side, i) >>> 56);
        }
        return bytes;
    }

    /** Flips the frame on the way into another one of the same length. */
    void become(ZonedFabric x, int wire, int side, int[] wanted) {
        int[] now = bytesOf(x, wire, side, wanted.length);
        for (int bit = 0; bit < 8 * wanted.length; bit++) {
            if (((now[bit / 8] ^ wanted[bit / 8]) >> bit % 8 & 1) == 1) {
                yes("9: flip(" + wire + ", " + side + ", " + bit + ")", x.flip(wire, side, bit));
            }
        }
        int[] then = bytesOf(x, wire, side, wanted.length + 1);
        for (int i = 0; i < wanted.length; i++) {
            is("9: byte " + i, then[i], wanted[i]);
        }
        is("9: no byte behind", then[wanted.length], 0);
    }

    void end() {
        System.out.println(asked + " answers, " + wrong + " wrong");
        if (wrong > 0 || asked == 0) {
            System.exit(1);
        }
    }
}
