/** Promises 11 to 16 and 23: commands of hosts, from phase to phase, and the blocks of discs. */
public final class CommandsTest {
    private static final Due DUE = new Due();

    public static void main(String[] args) {
        wrongCommands();
        wrongAsks();
        fourAtATime();
        threeHundred();
        greatNumbers();
        endedOnesMakeRoom();
        readStepByStep();
        writeStepByStep();
        writesOfAllKinds();
        bytesOfCommands();
        notReached();
        askAgain();
        workThenAbort();
        abortedByTheDisc();
        readWithAGap();
        laterValueCounts();
        loginIsKept();
        badCommand();
        sixOpenWrites();
        openWriteGrowsOld();
        abortEndsAnOpenWrite();
        eightLogins();
        newAddressNewLogin();
        loggedFromNowhere();
        dataOfAnOpenWrite();
        cutAtTheDisc();
        framesOfOthers();
        brokenBooks();
        DUE.end();
    }

    private static ZonedFabric small(int room) {
        ZonedFabric x = new ZonedFabric(1, 3, room);
        x.disc(1);
        x.wire(0, 0, 16, 0, 1);
        x.wire(0, 1, 17, 0, 1);
        x.wire(0, 2, 18, 0, 1);
        return x;
    }

    private static int kind(ZonedFabric x, int wire, int side) {
        return (int) (x.frame(wire, side, 0) >>> 56);
    }

    /** Goes on till a frame of a KIND is on the way. */
    private static void until(ZonedFabric x, int wire, int side, int kind) {
        for (int t = 0; t < 100 && kind(x, wire, side) != kind; t++) {
            x.tick(1);
        }
        DUE.is("a frame of KIND", kind(x, wire, side), kind);
    }

    private static void wrongCommands() {
        ZonedFabric x = small(2);
        x.tick(10);
        int[][] none = {{-1, 1, 0, 0, 1}, {3, 1, 0, 0, 1}, {1, 1, 0, 0, 1}, {0, 0, 0, 0, 1}, {0, 2, 0, 0, 1},
            {0, 3, 0, 0, 1}, {0, -1, 0, 0, 1}, {1, 0, 0, 0, 1}, {0, 1, -1, 0, 1}, {0, 1, 2, 0, 1}, {0, 1, 0, -1, 1},
            {0, 1, 0, 16, 1}, {0, 1, 0, 0, 0}, {0, 1, 0, 0, 5}, {0, 1, 0, 0, -1}, {0, 1, 0, 13, 4}, {0, 1, 0, 15, 2},
            {0, 1, 0, Integer.MAX_VALUE, 4}, {0, 1, 0, Integer.MIN_VALUE, 1}, {0, 1, 0, 1, Integer.MAX_VALUE},
            {0, 1, 0, 1, Integer.MIN_VALUE}, {Integer.MAX_VALUE, 1, 0, 0, 1}, {0, Integer.MIN_VALUE, 0, 0, 1},
            {0, 1, Integer.MAX_VALUE, 0, 1}};
        for (int[] c : none) {
            String text = java.util.Arrays.toString(c);
            DUE.is("11: read " + text, x.read(c[0], c[1], c[2], c[3], c[4]), -1);
            DUE.is("12: write " + text, x.write(c[0], c[1], c[2], c[3], c[4], 5L), -1);
        }
        DUE.is("11: none began", x.count(10), 0);
        DUE.is("11: nothing is sent", x.port(16, 0, 2), 0);
        DUE.is("11: the last block", x.read(0, 1, 1, 15, 1), 0);
        DUE.is("12: the last four", x.write(2, 1, 1, 12, 4, 1L), 1);
        DUE.is("11: ASK is in the queue", x.port(16, 0, 2), 1);
        DUE.is("22: commands", x.count(10), 2);
    }

    private static void wrongAsks() {
        ZonedFabric x = small(2);
        for (int c : new int[] {-1, 0, 299, 300, Integer.MAX_VALUE, Integer.MIN_VALUE}) {
            DUE.is("13: status(" + c + ")", x.status(c), -1);
            DUE.is("14: got(" + c + ", 0)", x.got(c, 0), 0);
            DUE.is("15: when(" + c + ", 0)", x.when(c, 0), -1);
        }
        x.tick(6);
        int c = x.read(0, 1, 0, 0, 4);
        DUE.is("13: phase 0", x.status(c), 0);
        DUE.is("13: behind it", x.status(c + 1), -1);
        DUE.is("15: began", x.when(c, 0), 6);
        DUE.is("15: ended", x.when(c, 1), -1);
        DUE.is("15: phase", x.when(c, 2), 6);
        for (int what : new int[] {-1, 3, Integer.MAX_VALUE, Integer.MIN_VALUE}) {
            DUE.is("15: when(" + what + ")", x.when(c, what), -1);
            DUE.is("14: got(" + what + ")", x.got(c, what), 0);
        }
        DUE.is("14: got(4)", x.got(c, 4), 0);
        int[][] none = {{0, 0, 0}, {-1, 0, 0}, {3, 0, 0}, {1, -1, 0}, {1, 2, 0}, {1, 0, -1}, {1, 0, 16},
            {Integer.MAX_VALUE, 0, 0}, {1, Integer.MIN_VALUE, 0}, {1, 0, Integer.MAX_VALUE}};
        for (int[] b : none) {
            DUE.is("16: block " + java.util.Arrays.toString(b), x.block(b[0], b[1], b[2]), Long.MIN_VALUE);
        }
        DUE.is("16: a block", x.block(1, 1, 15), 0);
    }

    private static void fourAtATime() {
        ZonedFabric x = small(2);
        for (int i = 0; i < 4; i++) {
            DUE.is("11: command " + i, x.read(0, 1, 0, 0, 1), i);
        }
        DUE.is("11: the fifth", x.read(0, 1, 0, 0, 1), -1);
        DUE.is("12: the fifth", x.write(0, 1, 0, 0, 1, 1L), -1);
        DUE.is("12: of another host", x.write(2, 1, 0, 0, 1, 1L), 4);
        x.tick(60);
        for (int i = 0; i < 5; i++) {
            DUE.is("13: status(" + i + ")", x.status(i), 10);
        }
        DUE.is("11: room again", x.read(0, 1, 0, 0, 1), 5);
    }

    /** OX has two bytes. */
    private static void greatNumbers() {
        ZonedFabric x = new ZonedFabric(1, 4, 2);
        x.disc(3);
        for (int i = 0; i < 25; i++) {
            for (int k = 0; k < 12; k++) {
                x.read(k % 3, 3, 0, 0, 1);
            }
            if (i == 24) {
                x.wire(0, 0, 17, 0, 1);
                x.wire(0, 2, 19, 0, 1);
                x.tick(20);
                due(x, 0, 1, FabricModel.make(5, 0xFFFFFC, 0x010002, 289, 0, 0, 3));
            }
            x.tick(120);
        }
        DUE.is("13: command 298", x.status(298), 10);
        DUE.is("13: command 299", x.status(299), 13);
    }

    private static void threeHundred() {
        ZonedFabric x = new ZonedFabric(1, 4, 1);
        x.disc(3);
        int made = 0;
        for (int i = 0; i < 25; i++) {
            for (int k = 0; k < 12; k++) {
                DUE.is("11: command", x.read(k % 3, 3, 0, 0, 1), made++);
            }
            x.tick(120);
            if (i == 23) {
                x.wire(0, 0, 16, 0, 1);
                x.tick(10);
            }
        }
        DUE.is("11: no 301st", x.read(0, 3, 0, 0, 1), -1);
        DUE.is("12: no 301st", x.write(0, 3, 0, 0, 1, 0L), -1);
        DUE.is("13: the last", x.status(299), 13);
        DUE.is("15: the last", x.when(299, 1), 3010);
        DUE.is("22: commands", x.count(10), 300);
    }

    private static void endedOnesMakeRoom() {
        ZonedFabric x = new ZonedFabric(1, 3, 2);
        x.disc(1);
        x.disc(2);
        x.wire(0, 0, 16, 0, 1);
        x.wire(0, 1, 17, 0, 1);
        x.tick(10);
        x.read(0, 1, 0, 0, 1);
        int far = x.read(0, 2, 0, 0, 1);
        x.tick(30);
        DUE.is("13: the first has ended", x.status(0), 10);
        for (int i = 0; i < 3; i++) {
            DUE.is("11: three more", x.read(0, 1, 0, 0, 1), 2 + i);
        }
        DUE.is("11: not four", x.read(0, 1, 0, 0, 1), -1);
        x.tick(90);
        DUE.is("13: the one that goes on ends in time", x.status(far), 13);
        DUE.is("15: at", x.when(far, 1), 130);
    }

    private static void state(ZonedFabric x, int c, int status, int phaseBegan) {
        DUE.is("13: status at " + x.count(0), x.status(c), status);
        DUE.is("15: phase began, at " + x.count(0), x.when(c, 2), phaseBegan);
    }

    private static void readStepByStep() {
        ZonedFabric x = small(2);
        x.tick(50);
        int c = x.read(0, 1, 0, 0, 4);
        int[] kinds = {5, 0, 0, 7, 0, 0, 0, 9, 0, 0, 0, 0, 0, 0, 0, 0};
        for (int t = 51; t <= 66; t++) {
            x.tick(1);
            DUE.is("11: what the host sends at " + t, kind(x, 0, 1), kinds[t - 51]);
            int status = t < 54 ? 0 : t < 58 ? 1 : t < 66 ? 2 : 10;
            state(x, c, status, t < 54 ? 50 : t < 58 ? 54 : 58);
            DUE.is("15: ended", x.when(c, 1), t < 66 ? -1 : 66);
            DUE.is("15: began", x.when(c, 0), 50);
        }
    }

    private static void writeStepByStep() {
        ZonedFabric x = small(4);
        x.tick(50);
        int c = x.write(0, 1, 1, 14, 2, Long.MAX_VALUE);
        x.tick(9);
        state(x, c, 2, 58);
        x.tick(3);
        DUE.is("12: DATA", kind(x, 0, 1), 11);
        x.tick(2);
        DUE.is("16: not before all came", x.block(1, 1, 14), 0);
        x.tick(1);
        DUE.is("16: all at once", x.block(1, 1, 14), Long.MAX_VALUE);
        DUE.is("16: v + 1", x.block(1, 1, 15), Long.MIN_VALUE);
        DUE.is("16: none else", x.block(1, 1, 13) | x.block(1, 0, 14) | x.block(1, 0, 15), 0);
        state(x, c, 2, 58);
        x.tick(2);
        state(x, c, 10, 58);
        DUE.is("15: ended", x.when(c, 1), 67);
        for (int i = 0; i < 4; i++) {
            DUE.is("14: a WRITE gets nothing", x.got(c, i), 0);
        }
    }

    private static void writesOfAllKinds() {
        ZonedFabric x = small(3);
        long[] due = new long[32];
        long v = -3;
        for (int unit = 0; unit < 2; unit++) {
            for (int count = 1; count <= 4; count++) {
                for (int block = 0; block <= 16 - count; block += 5) {
                    int c = x.write(0, 1, unit, block, count, v);
                    for (int i = 0; i < count; i++) {
                        due[16 * unit + block + i] = v + i;
                    }
                    v = v * 1000003 + 77;
                    x.tick(40);
                    DUE.is("13: WRITE", x.status(c), 10);
                    int r = x.read(2, 1, unit, block, count);
                    x.tick(40);
                    DUE.is("13: READ", x.status(r), 10);
                    for (int i = 0; i < 4; i++) {
                        DUE.is("14: got", x.got(r, i), i < count ? due[16 * unit + block + i] : 0);
                    }
                }
            }
        }
        for (int b = 0; b < 32; b++) {
            DUE.is("16: block " + b, x.block(1, b / 16, b % 16), due[b]);
        }
    }

    private static void bytesOfCommands() {
        ZonedFabric x = small(4);
        x.tick(10);
        x.read(2, 1, 0, 0, 1);
        x.tick(30);
        int c = x.write(0, 1, 1, 6, 2, 0x1122334455667788L);
        DUE.is("12: number", c, 1);
        due(x, 0, 1, FabricModel.make(5, 0xFFFFFC, 0x010001, 1, 0, 0, 1));
        due(x, 0, 0, FabricModel.make(6, 0x010001, 0xFFFFFC, 0, 0, 0, 1, 1, 1, 2));
        due(x, 0, 1, FabricModel.make(7, 0x010102, 0x010001, 1, 0, 0, 0));
        due(x, 1, 1, FabricModel.make(8, 0x010001, 0x010102, 1, 0, 0));
        due(x, 1, 0, FabricModel.make(9, 0x010102, 0x010001, 1, 0, 0, 1, 1, 6, 2));
        due(x, 1, 1, FabricModel.make(10, 0x010001, 0x010102, 1, 1, 0, 2));
        due(x, 0, 1, FabricModel.make(11, 0x010102, 0x010001, 1, 1, 0, 0x11, 0x22, 0x33, 0x44, 0x55, 0x66, 0x77, 0x88));
        x.tick(1);
        due(x, 0, 1, FabricModel.make(11, 0x010102, 0x010001, 1, 1, 1, 0x11, 0x22, 0x33, 0x44, 0x55, 0x66, 0x77, 0x89));
        due(x, 1, 1, FabricModel.make(12, 0x010001, 0x010102, 1, 1, 0, 0));
        x.tick(5);
        x.read(0, 1, 1, 7, 1);
        due(x, 0, 1, FabricModel.make(5, 0xFFFFFC, 0x010001, 2, 0, 0, 1));
        due(x, 0, 1, FabricModel.make(9, 0x010102, 0x010001, 2, 0, 0, 1, 0, 7, 1));
        due(x, 1, 1, FabricModel.make(11, 0x010001, 0x010102, 2, 0, 0, 0x11, 0x22, 0x33, 0x44, 0x55, 0x66, 0x77, 0x89));
        due(x, 1, 1, FabricModel.make(12, 0x010001, 0x010102, 2, 0, 0, 0));
        x.tick(5);
        x.write(0, 1, 0, 0, 1, 5L);
        due(x, 1, 1, FabricModel.make(10, 0x010001, 0x010102, 3, 2, 0, 1));
        x.flip(1, 1, 0);
        x.tick(100);
        due(x, 0, 1, FabricModel.make(13, 0x010102, 0x010001, 3, 0, 0));
        due(x, 1, 1, FabricModel.make(14, 0x010001, 0x010102, 3, 0, 0));
    }

    private static void due(ZonedFabric x, int wire, int side, int[] frame) {
        until(x, wire, side, frame[0]);
        int[] now = Due.bytesOf(x, wire, side);
        DUE.is("11: length of KIND " + frame[0], now == null ? 0 : now.length, frame.length);
        for (int i = 0; now != null && i < now.length && i < frame.length; i++) {
            DUE.is("11: byte " + i + " of KIND " + frame[0], now[i], frame[i]);
        }
    }

    private static void notReached() {
        ZonedFabric x = new ZonedFabric(1, 2, 2);
        x.disc(1);
        x.tick(3);
        int lone = x.read(0, 1, 0, 0, 1);
        x.tick(119);
        state(x, lone, 0, 3);
        x.tick(1);
        state(x, lone, 13, 3);
        DUE.is("15: ended", x.when(lone, 1), 123);
        ZonedFabric y = small(2);
        y.tick(10);
        int c = y.read(0, 1, 0, 0, 1);
        y.tick(4);
        state(y, c, 1, 14);
        y.cut(1);
        y.tick(115);
        state(y, c, 1, 14);
        y.tick(1);
        state(y, c, 13, 14);
        DUE.is("15: ended", y.when(c, 1), 130);
    }

    private static void askAgain() {
        ZonedFabric x = new ZonedFabric(1, 2, 2);
        x.disc(1);
        x.wire(0, 0, 16, 0, 1);
        x.tick(10);
        int c = x.read(0, 1, 0, 0, 1);
        int asks = 0;
        for (int t = 11; t <= 140; t++) {
            x.tick(1);
            if (kind(x, 0, 1) == 5) {
                DUE.is("11: ASK", t, asks == 0 ? 11 : 10 + 20 * asks);
                asks++;
            }
        }
        DUE.is("11: at the start, and five times again", asks, 6);
        state(x, c, 13, 10);
        int d = x.read(0, 1, 0, 0, 1);
        x.tick(30);
        x.wire(0, 1, 17, 0, 1);
        x.tick(25);
        DUE.is("13: asked again, it is reached", x.status(d), 10);
    }

    /** A WRITE whose READY is gone, at TIME 22. */
    private static ZonedFabric lostReady() {
        ZonedFabric x = small(2);
        x.tick(10);
        x.write(0, 1, 0, 0, 2, 7L);
        until(x, 1, 1, 10);
        x.flip(1, 1, 9);
        x.tick(1);
        return x;
    }

    private static void workThenAbort() {
        ZonedFabric x = lostReady();
        state(x, 0, 2, 18);
        x.tick(129 - x.count(0));
        state(x, 0, 2, 18);
        x.cut(1);
        x.tick(1);
        state(x, 0, 3, 130);
        int aborts = 0;
        for (int t = 130; t < 190; t++) {
            state(x, 0, 3, 130);
            if (kind(x, 0, 1) == 13) {
                DUE.is("13: ABORT", t, 130 + 20 * aborts);
                aborts++;
            }
            x.tick(1);
        }
        DUE.is("13: ABORT at the start, and twice again", aborts, 3);
        state(x, 0, 12, 130);
        DUE.is("15: ended", x.when(0, 1), 190);
    }

    private static void abortedByTheDisc() {
        ZonedFabric x = lostReady();
        x.tick(130 - x.count(0));
        state(x, 0, 3, 130);
        x.tick(3);
        state(x, 0, 3, 130);
        x.tick(1);
        state(x, 0, 12, 130);
        DUE.is("15: ended", x.when(0, 1), 134);
        DUE.is("16: nothing is written", x.block(1, 0, 0), 0);
    }

    private static void readWithAGap() {
        ZonedFabric x = small(2);
        x.tick(10);
        x.write(0, 1, 0, 0, 4, 70L);
        x.tick(30);
        int c = x.read(0, 1, 0, 0, 4);
        until(x, 1, 1, 11);
        x.tick(1);
        x.flip(1, 1, 100);
        x.tick(8);
        int phase = x.when(c, 2);
        DUE.is("13: DONE, but a part is not there", x.status(c) == 3 || x.status(c) == 12 ? 1 : 0, 1);
        DUE.is("14: part 0", x.got(c, 0), 70);
        DUE.is("14: part 1", x.got(c, 1), 0);
        DUE.is("14: part 2", x.got(c, 2), 72);
        DUE.is("14: part 3", x.got(c, 3), 73);
        x.tick(10);
        state(x, c, 12, phase);
        DUE.is("15: ABORTED goes back", x.when(c, 1), phase + 4);
        DUE.is("22: not TRUE", x.count(1), 1);
    }

    private static void laterValueCounts() {
        ZonedFabric x = small(2);
        x.tick(10);
        int c = x.write(0, 1, 0, 0, 2, 70L);
        until(x, 0, 1, 11);
        x.tick(1);
        // the second DATA says PART 0 again: the WRITE stays open, and the host waits
        DUE.become(x, 0, 1, FabricModel.make(11, 0x010102, 0x010001, c, 1, 0, 0, 0, 0, 0, 0, 0, 0, 9));
        x.tick(10);
        DUE.is("16: not all came", x.block(1, 0, 0), 0);
        DUE.is("13: the host waits", x.status(c), 2);
        int r = x.read(0, 1, 0, 0, 1);
        x.write(2, 1, 0, 0, 2, 50L);
        until(x, 2, 1, 11);
        DUE.become(x, 2, 1, FabricModel.make(11, 0x010102, 0x010203, 2, 2, 1, 0, 0, 0, 0, 0, 0, 0, 8));
        x.tick(1);
        DUE.become(x, 2, 1, FabricModel.make(11, 0x010102, 0x010203, 2, 2, 1, 0, 0, 0, 0, 0, 0, 0, 9));
        x.tick(10);
        DUE.is("13: READ of the host", x.status(r), 10);
        DUE.is("16: PART 0 did not come", x.block(1, 0, 1), 0);
        ZonedFabric y = small(2);
        y.tick(10);
        int d = y.read(0, 1, 0, 0, 3);
        until(y, 1, 1, 11);
        DUE.become(y, 1, 1, FabricModel.make(11, 0x010001, 0x010102, d, 0, 2, 0, 0, 0, 0, 0, 0, 0, 5));
        y.tick(1);
        DUE.become(y, 1, 1, FabricModel.make(11, 0x010001, 0x010102, d, 0, 2, 1, 0, 0, 0, 0, 0, 0, 6));
        y.tick(1);
        DUE.become(y, 1, 1, FabricModel.make(11, 0x010001, 0x010102, d, 0, 3, 0, 0, 0, 0, 0, 0, 0, 5));
        y.tick(5);
        DUE.is("14: the later value", y.got(d, 2), 1L << 56 | 6);
        DUE.is("14: no PART 3 of three", y.got(d, 3), 0);
    }

    private static void loginIsKept() {
        ZonedFabric x = small(2);
        x.tick(10);
        x.read(0, 1, 0, 0, 1);
        x.tick(30);
        int c = x.read(0, 1, 0, 0, 1);
        x.tick(4);
        state(x, c, 2, 44);
        x.tick(20);
        DUE.is("13: GOOD", x.status(c), 10);
        x.cut(0);
        x.join(0);
        x.tick(10);
        int d = x.read(0, 1, 0, 0, 1);
        x.tick(4);
        state(x, d, 1, 78);
        x.tick(20);
        DUE.is("13: GOOD", x.status(d), 10);
        x.domain(0, 3);
        x.tick(100);
        int e = x.read(0, 1, 0, 0, 1);
        x.tick(4);
        state(x, e, 1, x.count(0));
        x.tick(20);
        DUE.is("13: GOOD at the new address", x.status(e), 10);
    }

    /** A COMMAND with another LOAD, or FROM, and what comes of it. */
    private static void changedCommand(int due, int unit, int write, int block, int count) {
        ZonedFabric x = small(2);
        x.tick(10);
        int c = x.read(0, 1, 0, 0, 1);
        until(x, 1, 0, 9);
        DUE.become(x, 1, 0, FabricModel.make(9, 0x010102, 0x010001, c, 0, 0, unit, write, block, count));
        x.tick(20);
        DUE.is("13: COMMAND " + unit + " " + write + " " + block + " " + count, x.status(c), due);
    }

    private static void badCommand() {
        changedCommand(10, 1, 0, 15, 1);
        changedCommand(10, 0, 0, 12, 4);
        changedCommand(11, 2, 0, 0, 1);
        changedCommand(11, 255, 0, 0, 1);
        changedCommand(11, 0, 0, 0, 0);
        changedCommand(11, 0, 0, 0, 5);
        changedCommand(11, 0, 0, 16, 1);
        changedCommand(11, 0, 0, 13, 4);
        changedCommand(11, 0, 1, 255, 4);
        changedCommand(2, 0, 1, 12, 4);
        ZonedFabric x = small(2);
        x.tick(10);
        x.read(0, 1, 0, 0, 1);
        x.tick(30);
        x.cut(1);
        x.join(1);
        x.tick(10);
        int c = x.read(0, 1, 0, 0, 1);
        x.tick(4);
        state(x, c, 2, 54);
        x.tick(4);
        state(x, c, 11, 54);
        DUE.is("15: the disc has forgotten the login", x.when(c, 1), 58);
        int d = x.read(0, 1, 0, 0, 1);
        x.tick(4);
        state(x, d, 1, 62);
        x.tick(10);
        DUE.is("13: logged in anew", x.status(d), 10);
    }

    private static void sixOpenWrites() {
        ZonedFabric x = small(4);
        x.tick(10);
        for (int i = 0; i < 8; i++) {
            x.write(i < 4 ? 0 : 2, 1, 0, i, 1, 100L + i);
        }
        for (int t = 0; t < 60; t++) {
            x.tick(1);
            if (kind(x, 1, 1) == 10) {
                x.flip(1, 1, 8);
            }
        }
        int bad = 0;
        int waiting = 0;
        for (int i = 0; i < 8; i++) {
            bad += x.status(i) == 11 ? 1 : 0;
            waiting += x.status(i) == 2 ? 1 : 0;
        }
        DUE.is("13: six are open", waiting, 6);
        DUE.is("13: two are BAD", bad, 2);
        int r = x.read(x.status(0) == 11 || x.status(1) == 11 ? 0 : 2, 1, 0, 0, 1);
        x.tick(40);
        DUE.is("13: a READ is not", r < 0 ? 10 : x.status(r), 10);
        x.tick(60);
        for (int i = 0; i < 8; i++) {
            DUE.yes("13: all have ended", x.status(i) == 11 || x.status(i) == 12);
        }
        int w = x.write(0, 1, 0, 0, 1, 5L);
        x.tick(30);
        DUE.is("13: and none is open", x.status(w), 10);
    }

    /** What comes is taken ahead of TIMERS: DATA in the 120th tick is not too late, one tick later it is. */
    private static void openWriteGrowsOld() {
        for (int late = 0; late < 3; late++) {
            ZonedFabric x = small(4);
            x.tick(10);
            int c = x.write(0, 1, 0, 0, 1, 7L);
            until(x, 1, 0, 9);
            x.tick(1);
            int opened = x.count(0);
            DUE.is("12: READY", kind(x, 1, 1), 10);
            x.cut(0);
            x.read(2, 1, 1, 0, 1);
            x.tick(opened + 109 + late - x.count(0));
            x.write(2, 1, 1, 0, 1, 3L);
            until(x, 1, 0, 11);
            DUE.become(x, 1, 0, FabricModel.make(11, 0x010102, 0x010001, c, 1, 0, 0, 0, 0, 0, 0, 0, 0, 7));
            x.tick(1);
            int age = x.count(0) - opened;
            DUE.is("16: DATA after " + age + " ticks", x.block(1, 0, 0), age <= 120 ? 7 : 0);
            DUE.is("16: at the edge", age, 119 + late);
        }
    }

    /** The WELCOME to the disc comes as an ABORT, of the open WRITE or not quite of it. */
    private static void abortEndsAnOpenWrite() {
        int[][] aborts = {{0x010001, 0}, {0x010001, 1}, {0x010203, 0}};
        for (int[] abort : aborts) {
            ZonedFabric x = lostReady();
            x.tick(70);
            until(x, 1, 0, 4);
            DUE.become(x, 1, 0, FabricModel.make(13, 0x010102, abort[0], abort[1], 0, 0));
            x.tick(1);
            due(x, 1, 1, FabricModel.make(14, abort[0], 0x010102, abort[1], 0, 0));
            x.write(2, 1, 1, 0, 2, 3L);
            until(x, 1, 0, 11);
            // an open WRITE takes these two
            data(x, 0, 1, 0, 7);
            data(x, 0, 1, 1, 8);
            boolean ended = abort[0] == 0x010001 && abort[1] == 0;
            DUE.is("16: is a WRITE open?", x.block(1, 0, 1), ended ? 0 : 8);
            DUE.is("13: the host waits, ABORTED is not for phase 2", x.status(0), 2);
        }
    }

    /** The frame to the disc, with a LOAD of eight, comes as DATA of host 0. */
    private static void data(ZonedFabric x, int ox, int rx, int part, int value) {
        DUE.become(x, 1, 0, FabricModel.make(11, 0x010102, 0x010001, ox, rx, part, 0, 0, 0, 0, 0, 0, 0, value));
        x.tick(1);
    }

    private static void dataOfAnOpenWrite() {
        ZonedFabric x = lostReady();
        x.write(2, 1, 1, 0, 4, 3L);
        until(x, 1, 0, 11);
        data(x, 0, 1, 2, 50);
        data(x, 0, 1, 0, 51);
        data(x, 0, 2, 1, 52);
        data(x, 1, 1, 1, 53);
        x.write(2, 1, 1, 0, 4, 3L);
        until(x, 1, 0, 11);
        DUE.become(x, 1, 0, FabricModel.make(11, 0x010102, 0x010203, 0, 1, 1, 0, 0, 0, 0, 0, 0, 0, 54));
        x.tick(1);
        DUE.is("16: none of these was PART 1 of it", x.block(1, 0, 0) | x.block(1, 0, 1), 0);
        data(x, 0, 1, 0, 55);
        data(x, 0, 1, 1, 56);
        DUE.is("16: the later value", x.block(1, 0, 0), 55);
        DUE.is("16: PART 1", x.block(1, 0, 1), 56);
        DUE.is("16: no PART 2", x.block(1, 0, 2), 0);
        data(x, 0, 1, 1, 57);
        DUE.is("16: it is open no more", x.block(1, 0, 1), 56);
    }

    private static void newAddressNewLogin() {
        ZonedFabric x = new ZonedFabric(2, 2, 2);
        x.disc(1);
        x.wire(0, 0, 16, 0, 1);
        x.wire(1, 0, 17, 0, 1);
        x.wire(0, 1, 1, 1, 1);
        x.tick(20);
        int c = x.read(0, 1, 0, 0, 1);
        x.tick(30);
        DUE.is("13: logged in", x.status(c), 10);
        x.domain(0, 9);
        x.tick(60);
        DUE.is("20: the host's address", x.address(0), 0x090001);
        DUE.is("20: the disc's is as it was", x.address(1), 0x020002);
        int d = x.read(0, 1, 0, 0, 1);
        x.tick(4);
        state(x, d, 1, x.count(0));
        x.tick(20);
        DUE.is("13: GOOD", x.status(d), 10);
    }

    private static void loggedFromNowhere() {
        for (int last : new int[] {0, 4, 9, 255, 2, 3}) {
            ZonedFabric x = small(2);
            x.tick(10);
            int c = x.read(0, 1, 0, 0, 1);
            until(x, 0, 0, 8);
            DUE.become(x, 0, 0, FabricModel.make(8, 0x010001, 0x010100 + last, 0, 0, 0));
            x.tick(1);
            DUE.is("13: LOGGED of " + last, x.status(c), last == 2 ? 2 : 1);
            x.tick(30);
            DUE.is("13: it is sent again", x.status(c), 10);
        }
    }

    private static void eightLogins() {
        for (int fakes = 1; fakes <= 2; fakes++) {
            ZonedFabric x = new ZonedFabric(1, 8, 4);
            x.disc(7);
            for (int n = 0; n < 8; n++) {
                x.wire(0, n, 16 + n, 0, 1);
            }
            x.tick(10);
            x.read(0, 7, 0, 0, 1);
            x.tick(20);
            for (int n = 1; n < 7; n++) {
                x.read(n, 7, 0, 0, 1);
                x.tick(20);
            }
            x.cut(6);
            x.join(6);
            x.tick(10);
            // seven are logged in; LOGINs of node 6 come as of others
            for (int i = 0; i < fakes; i++) {
                x.read(6, 7, 0, 0, 1);
                until(x, 7, 0, 7);
                DUE.become(x, 7, 0, FabricModel.make(7, 0x010708, 0x010601 + 256 * i, 0, 0, 0, 6));
                x.tick(1);
            }
            x.tick(5);
            int c = x.read(0, 7, 0, 0, 1);
            x.tick(20);
            DUE.is("13: of nine the oldest goes", x.status(c), fakes == 1 ? 10 : 11);
            int d = x.read(1, 7, 0, 0, 1);
            x.tick(20);
            DUE.is("13: the next oldest stays", x.status(d), 10);
        }
    }

    private static void cutAtTheDisc() {
        ZonedFabric x = lostReady();
        x.cut(1);
        x.join(1);
        x.tick(10);
        x.write(2, 1, 1, 0, 2, 3L);
        until(x, 1, 0, 11);
        DUE.become(x, 1, 0, FabricModel.make(11, 0x010102, 0x010001, 0, 1, 0, 0, 0, 0, 0, 0, 0, 0, 7));
        x.tick(1);
        DUE.become(x, 1, 0, FabricModel.make(11, 0x010102, 0x010001, 0, 1, 1, 0, 0, 0, 0, 0, 0, 0, 8));
        x.tick(1);
        DUE.is("16: the open WRITE went with the wire", x.block(1, 0, 0), 0);
        x.tick(100);
        DUE.is("13: the host ends it", x.status(0), 12);
    }

    /** A DONE to the host that is not quite of its command. */
    private static void changedDone(int due, int to, int from, int ox, int good) {
        ZonedFabric x = small(2);
        x.tick(10);
        x.read(0, 1, 0, 0, 1);
        until(x, 0, 0, 12);
        DUE.become(x, 0, 0, FabricModel.make(12, to, from, ox, 0, 0, good));
        x.tick(1);
        DUE.is("13: DONE " + to + " " + from + " " + ox + " " + good, x.status(0), due);
    }

    private static void framesOfOthers() {
        changedDone(10, 0x010001, 0x010102, 0, 0);
        changedDone(11, 0x010001, 0x010102, 0, 1);
        changedDone(2, 0x010001, 0x010102, 1, 0);
        changedDone(2, 0x010001, 0x010102, 256, 0);
        changedDone(2, 0x010001, 0x010202, 0, 0);
        changedDone(2, 0x010002, 0x010102, 0, 0);
        changedDone(2, 0x010001, 0xFFFFFC, 0, 1);
    }

    private static void brokenBooks() {
        ZonedFabric x = small(1);
        x.tick(10);
        for (int i = 0; i < 4; i++) {
            x.write(0, 1, 0, 0, 4, 1L);
            x.write(2, 1, 0, 0, 4, 1L);
        }
        x.tick(30);
        x.zoning(true);
        x.tick(200);
        for (int what = 0; what < 3; what++) {
            DUE.is("23: broken(" + what + ")", x.broken(what), 0);
        }
        DUE.is("23: broken(-1)", x.broken(-1), 0);
        DUE.is("23: broken(3)", x.broken(3), 0);
        for (int c = 0; c < 8; c++) {
            DUE.yes("23: each ends in time", x.when(c, 1) >= 0 && x.when(c, 1) - x.when(c, 0) <= 180);
        }
    }
}
