import java.util.zip.CRC32;

/** The bytes of frames, their CHECK, and which of them are TRUE. */
final class FrameEdges {
    private FrameEdges() {
    }

    @Sentence("A FRAME are bytes: KIND, TO (three bytes), FROM (three), OX (two), RX (two), PART, n, n bytes of LOAD, "
        + "CHECK (four); numbers of several bytes have the highest first.")
    @Slip(from = "bytes[AT_OX] = (byte) (ox >> 8);", to = "bytes[AT_OX] = (byte) (ox >> 16);")
    @Slip(from = "return (int) number(AT_RX, 2);", to = "return byteAt(AT_RX + 1);")
    @Slip(from = "8 * (width - 1 - i)", to = "8 * i")
    @Slip(from = "bytes[AT_TO + i] = (byte) (to >> 16 - 8 * i);", to = "bytes[AT_TO + i] = (byte) (to >> 8 * i);")
    @Slip(from = "bytes[AT_FROM + i] = (byte) (from >> 16 - 8 * i);", to = "bytes[AT_FROM + i] = (byte) (from >> 8 * i);")
    static void numbersOfSeveralBytes(Due due) {
        ZonedFabric x = Scene.star(3, 4);
        x.tick(10);
        for (int i = 0; i < 258; i++) {
            due.is("write", x.write(i / 3 % 2, 2, 0, 0, 1, i), i);
            if (i % 6 == 5) {
                x.tick(60);
            }
        }
        due.is("the last one ended", x.status(257), 10);
        // its number is above 255, and so is the disc's RX: 258 WRITES were open ahead of it
        due.is("write", x.write(0, 2, 1, 6, 2, 0x1122334455667788L), 258);
        Scene.until(due, x, 0, 1, 9);
        due.frame("COMMAND", x, 0, 1, FabricModel.make(9, 0x010203, 0x010001, 0x0102, 0, 0, 1, 1, 6, 2));
        Scene.until(due, x, 2, 1, 10);
        due.frame("READY", x, 2, 1, FabricModel.make(10, 0x010001, 0x010203, 0x0102, 0x0103, 0, 2));
        Scene.until(due, x, 0, 1, 11);
        x.tick(1);
        due.frame("DATA", x, 0, 1, FabricModel.make(11, 0x010203, 0x010001, 0x0102, 0x0103, 1,
            0x11, 0x22, 0x33, 0x44, 0x55, 0x66, 0x77, 0x89));
        x.tick(10);
        due.is("the block", x.block(2, 1, 7), 0x1122334455667789L);
    }

    @Sentence("CHECK: c = all ones (32 bits); for each byte ahead c is xored with it, then eight times: c is shifted right "
        + "by one without sign, and xored with EDB88320 (base 16), if the bit that went out was 1; CHECK is c with all bits "
        + "turned over.")
    @Slip(from = "int c = -1;", to = "int c = 0;")
    @Slip(from = "return ~c;", to = "return c;")
    @Slip(from = "for (int i = 0; i < size && i < bytes.length; i++) {\n                c ^=",
        to = "for (int i = 0; i < size - 1 && i < bytes.length; i++) {\n                c ^=")
    @Slip(from = "0xEDB88320, 0xF00F9344", to = "0xEDB88321, 0xF00F9344")
    static void checkOfAllBytesAhead(Due due) {
        ZonedFabric x = Scene.star(2, 4);
        x.tick(10);
        x.write(0, 1, 0, 0, 4, -1L);
        int seen = 0;
        for (int t = 0; t < 25; t++) {
            x.tick(1);
            for (int side = 0; side < 2; side++) {
                int[] bytes = Due.bytesOf(x, 0, side);
                if (bytes != null) {
                    CRC32 crc = new CRC32();
                    for (int i = 0; i < bytes.length - 4; i++) {
                        crc.update(bytes[i]);
                    }
                    due.is("CHECK of KIND " + bytes[0], x.frame(0, side, bytes.length - 4), crc.getValue() << 32);
                    seen++;
                }
            }
        }
        due.is("frames of the host and to it", seen, 11);
    }

    @Sentence("What is not told is 0.")
    @Slip(from = "for (int i = AT_RX; i < HEADER; i++) {", to = "for (int i = AT_RX; i < AT_PART; i++) {")
    static void notTold(Due due) {
        ZonedFabric x = afterAWrite(due);
        x.cut(0);
        x.join(0);
        x.tick(1);
        due.frame("FLOGI without an address", x, 0, 1, FabricModel.make(3, Scene.TO_LOGIN, 0, 0, 0, 0, 0));
        x.tick(2);
        due.frame("WELCOME", x, 0, 0, FabricModel.make(4, Scene.home(0), Scene.TO_LOGIN, 0, 0, 0));
        x.tick(10);
        x.read(0, 1, 0, 0, 4);
        for (int t = 0; t < 20; t++) {
            x.tick(1);
            for (int w = 0; w < 4; w++) {
                int[] f = Due.bytesOf(x, w / 2, w % 2);
                due.yes("a PART of DATA alone", f == null || f[11] == 0 || f[0] == 11);
            }
        }
        due.is("the READ", x.status(1), 10);
    }

    /** A star of host 0 and disc 1 in which frames with an OX, an RX and a PART have gone by: frames are used again. */
    private static ZonedFabric afterAWrite(Due due) {
        ZonedFabric x = Scene.star(2, 4);
        x.tick(10);
        x.write(0, 1, 0, 0, 4, 5L);
        x.tick(25);
        due.is("a WRITE ahead", x.status(0), 10);
        return x;
    }

    @Sentence("OX and RX of what is told without any are 0.")
    @Slip(from = "for (int i = AT_RX; i < HEADER; i++) {", to = "for (int i = AT_PART; i < HEADER; i++) {")
    @Slip(from = "shared.draft(TOLD, port.given, TO_NAMES, 0)", to = "shared.draft(TOLD, port.given, TO_NAMES, ask.ox())")
    static void oxAndRxNotTold(Due due) {
        ZonedFabric x = afterAWrite(due);
        x.read(0, 1, 0, 0, 4);
        int seen = 0;
        for (int t = 0; t < 12; t++) {
            x.tick(1);
            for (int w = 0; w < 4; w++) {
                int[] f = Due.bytesOf(x, w / 2, w % 2);
                if (f != null) {
                    due.is("OX of KIND " + f[0], f[7] << 8 | f[8], f[0] == 6 ? 0 : 1);
                    due.is("RX of KIND " + f[0], f[9] << 8 | f[10], 0);
                    seen++;
                }
            }
        }
        due.is("ASK, TOLD, twice COMMAND, four DATA, DONE", seen, 14);
        due.is("the READ", x.status(1), 10);
    }

    @Sentence("A frame is TRUE if CHECK is that,")
    @Slip(from = "&& (int) number(length - CHECK, CHECK) == reckonCheck(length - CHECK)", to = "")
    @Slip(from = "(int) number(length - CHECK, CHECK) == reckonCheck(length - CHECK)",
        to = "((int) number(length - CHECK, CHECK) ^ reckonCheck(length - CHECK)) >>> 1 == 0")
    static void checkIsThat(Due due) {
        for (int bit = -1; bit < 144; bit++) {
            ZonedFabric x = new ZonedFabric(1, 1, 1);
            x.wire(0, 0, 16, 0, 1);
            x.tick(1);
            due.yes("flip", bit < 0 || x.flip(0, 1, bit));
            x.tick(1);
            due.is("bit " + bit, x.count(1), bit < 0 ? 0 : 1);
        }
        Scene.Spot spot = Scene.login();
        spot.become(due, 7, Scene.home(1), Scene.home(0), 1);
        due.is("a frame that was flipped, with the CHECK that it has then", Scene.fate(due, spot), 7);
    }

    @Sentence("n is how many bytes its LOAD has, and the LOAD has the form of its KIND:")
    @Slip(from = "byteAt(AT_SIZE) == size", to = "byteAt(AT_SIZE) >= size")
    @Slip(from = "byteAt(AT_SIZE) == size", to = "byteAt(AT_SIZE) <= size")
    @Slip(from = "&& (kind() == RECORD ? hasRecordForm(size, shared) : hasForm(size, shared))", to = "")
    static void sizeOfTheLoad(Due due) {
        for (int n : new int[] {0, 1, 2, 255}) {
            Scene.Spot spot = Scene.withLoad(1);
            int[] frame = FabricModel.make(0, 0x0F0001, 0x0F0001, 0, 0, 0, 9);
            frame[12] = n;
            FabricModel.setCheck(frame);
            due.become(spot.x, spot.wire, spot.side, frame);
            spot.x.tick(1);
            due.is("n " + n + " of 1", spot.x.count(1), n == 1 ? 0 : 1);
        }
        due.no("no form of DONE", Scene.isTrue(due, 12, 9));
    }

    @Sentence("HELLO one byte, a switch that there is;")
    @Slip(from = "return size == 1 && load(0) < shared.switchCount;", to = "return size == 1 && load(0) <= shared.switchCount;")
    @Slip(from = "return size == 1 && load(0) < shared.switchCount;", to = "return size == 1 && load(0) < shared.switchCount - 1;")
    @Slip(from = "return size == 1 && load(0) < shared.switchCount;", to = "return size >= 1 && load(0) < shared.switchCount;")
    @Slip(from = "return size == 1 && load(0) < shared.switchCount;", to = "return size <= 1 && load(0) < shared.switchCount;")
    static void hello(Due due) {
        due.yes("switch 0", Scene.isTrue(due, 1, 0));
        due.yes("the last switch", Scene.isTrue(due, 1, 1));
        due.no("behind the last switch", Scene.isTrue(due, 1, 2));
        due.no("switch 255", Scene.isTrue(due, 1, 255));
        due.no("no byte", Scene.isTrue(due, frame -> frame[13] == 0, 1));
        due.no("four bytes", Scene.isTrue(due, 1, 0, 0, 0, 0));
    }

    /** Two neighbours and a node; others in one byte of it at a time. */
    private static boolean record(Due due, int... changes) {
        int[] load = {1, 0, 0, 0, 15, 2, 0, 0, 1, 7, 1, 9, 1, 2, 7};
        for (int i = 0; i < changes.length; i += 2) {
            load[changes[i]] = changes[i + 1];
        }
        return Scene.isTrue(due, 2, load);
    }

    @Sentence("RECORD as told below and no byte more,")
    @Slip(from = "size != nodesAt + 1 + 2 * load(nodesAt)", to = "size < nodesAt + 1 + 2 * load(nodesAt)")
    @Slip(from = "size != nodesAt + 1 + 2 * load(nodesAt)", to = "size > nodesAt + 1 + 2 * load(nodesAt)")
    static void recordAndNoByteMore(Due due) {
        due.yes("as told", record(due));
        due.no("two bytes more than its nodes", record(due, 12, 0));
        due.no("two bytes less than its nodes", record(due, 12, 2));
        due.no("two bytes less, which CHECK could be", Scene.isTrue(due, frame -> frame[25] == 1 && frame[26] > 0 && frame[26] < 8,
            2, 1, 0, 0, 0, 15, 1, 0, 0, 1, 2, 0, 0));
        due.no("nodes 255", record(due, 12, 255));
        due.no("a neighbour less", record(due, 5, 1, 9, 0));
        due.no("no neighbour", record(due, 5, 0, 6, 0));
        due.no("a neighbour more", record(due, 5, 3));
        due.no("neighbours 255", record(due, 5, 255));
        due.yes("no neighbour, three nodes", Scene.isTrue(due, 2, 0, 0, 0, 1, 1, 0, 3, 0, 0, 1, 1, 2, 7));
        due.yes("two neighbours, no node", Scene.isTrue(due, 2, 0, 0, 0, 1, 1, 2, 0, 1, 1, 1, 1, 1, 0));
        due.no("its nodes are counted where it has ended", Scene.isTrue(due, 2, 0, 0, 0, 1, 1, 2, 0, 1, 1, 1));
        for (int size : new int[] {0, 1, 4, 8}) {
            due.no("a LOAD of " + size, Scene.isTrue(due, 2, new int[size]));
        }
    }

    @Sentence("of a switch that there is,")
    @Slip(from = "return load(0) < shared.switchCount && load(4) >= 1", to = "return load(0) <= shared.switchCount && load(4) >= 1")
    @Slip(from = "return load(0) < shared.switchCount && load(4) >= 1", to = "return load(0) == 1 && load(4) >= 1")
    static void recordOfASwitch(Due due) {
        due.yes("switch 0", record(due, 0, 0));
        due.yes("the last switch", record(due, 0, 1));
        due.no("behind the last switch", record(due, 0, 2));
        due.no("switch 255", record(due, 0, 255));
    }

    @Sentence("with a domain 1 .. 15,")
    @Slip(from = "load(4) >= 1 &&", to = "")
    @Slip(from = "load(4) >= 1 &&", to = "load(4) > 1 &&")
    @Slip(from = "load(4) <= LAST_DOMAIN", to = "load(4) <= LAST_DOMAIN + 1")
    @Slip(from = "load(4) <= LAST_DOMAIN", to = "load(4) < LAST_DOMAIN")
    static void recordOfADomain(Due due) {
        due.no("domain 0", record(due, 4, 0));
        due.yes("domain 1", record(due, 4, 1));
        due.yes("domain 15", record(due, 4, 15));
        due.no("domain 16", record(due, 4, 16));
        due.no("domain 255", record(due, 4, 255));
    }

    @Sentence("ports 0 .. 7 that rise (of neighbours, of nodes),")
    @Slip(from = "if (port <= last || port >= PORTS || load(7", to = "if (port < last || port >= PORTS || load(7")
    @Slip(from = "if (port <= last || port >= PORTS || load(7", to = "if (port >= PORTS || load(7")
    @Slip(from = "if (port <= last || port >= PORTS || load(7", to = "if (port <= last || port > PORTS || load(7")
    @Slip(from = "if (port <= last || port >= PORTS || !shared", to = "if (port < last || port >= PORTS || !shared")
    @Slip(from = "if (port <= last || port >= PORTS || !shared", to = "if (port <= last || port > PORTS || !shared")
    @Slip(from = "private boolean haveNodesForm(int nodesAt, Shared shared) {\n            int last = NONE;",
        to = "private boolean haveNodesForm(int nodesAt, Shared shared) {\n            int last = 0;")
    @Slip(from = "private boolean haveNeighboursForm(int neighbours, Shared shared) {\n            int last = NONE;",
        to = "private boolean haveNeighboursForm(int neighbours, Shared shared) {\n            int last = 0;")
    static void portsOfARecord(Due due) {
        due.yes("neighbours at 0 and 7", record(due, 6, 0, 9, 7));
        due.yes("at 0 and 1", record(due, 9, 1));
        due.yes("at 6 and 7", record(due, 6, 6));
        due.no("at 0 and 0", record(due, 9, 0));
        due.no("at 7 and 7", record(due, 6, 7));
        due.no("at 7 and 6", record(due, 6, 7, 9, 6));
        due.no("at 0 and 8", record(due, 9, 8));
        due.no("at 8 and 7", record(due, 6, 8));
        due.yes("a node at 0", record(due, 14, 0));
        due.yes("a node at 7", record(due, 14, 7));
        due.no("a node at 8", record(due, 14, 8));
        due.yes("nodes at 0, 1, 7", Scene.isTrue(due, 2, 0, 0, 0, 0, 1, 0, 3, 0, 0, 1, 1, 2, 7));
        due.no("nodes at 0, 0, 7", Scene.isTrue(due, 2, 0, 0, 0, 0, 1, 0, 3, 0, 0, 1, 0, 2, 7));
        due.no("nodes at 1, 0, 7", Scene.isTrue(due, 2, 0, 0, 0, 0, 1, 0, 3, 0, 1, 1, 0, 2, 7));
        due.no("nodes at 0, 7, 7", Scene.isTrue(due, 2, 0, 0, 0, 0, 1, 0, 3, 0, 0, 1, 7, 2, 7));
    }

    @Sentence("switches and nodes that there are (a node at most once),")
    @Slip(from = "load(7 + 3 * i) >= shared.switchCount", to = "load(7 + 3 * i) > shared.switchCount")
    @Slip(from = "port >= PORTS || !shared.isNode(node) ||", to = "port >= PORTS || node > shared.nodeCount ||")
    @Slip(from = "|| (seen >> node & 1) == 1", to = "")
    @Slip(from = "|| (seen >> node & 1) == 1", to = "|| i > 0 && load(nodesAt - 1 + 2 * i) == node")
    static void switchesAndNodesOfARecord(Due due) {
        due.yes("the last switch as a neighbour", record(due, 7, 1, 10, 1));
        due.no("behind it", record(due, 7, 2));
        due.no("behind it, the second neighbour", record(due, 10, 2));
        due.yes("node 0", record(due, 13, 0));
        due.yes("the last node", record(due, 13, 2));
        due.no("behind it", record(due, 13, 3));
        due.no("node 255", record(due, 13, 255));
        due.yes("three nodes", Scene.isTrue(due, 2, 0, 0, 0, 0, 1, 0, 3, 2, 0, 0, 1, 1, 7));
        due.no("a node twice in a row", Scene.isTrue(due, 2, 0, 0, 0, 0, 1, 0, 3, 2, 0, 2, 1, 1, 7));
        due.no("a node twice", Scene.isTrue(due, 2, 0, 0, 0, 0, 1, 0, 3, 2, 0, 1, 1, 2, 7));
    }

    @Sentence("costs 1 .. 9;")
    @Slip(from = "|| cost < 1 || cost > MOST_COST) {\n                    return false;", to = "|| cost > MOST_COST) {\n                    return false;")
    @Slip(from = "|| cost < 1 || cost > MOST_COST) {\n                    return false;", to = "|| cost < 1) {\n                    return false;")
    @Slip(from = "|| cost < 1 || cost > MOST_COST) {\n                    return false;",
        to = "|| cost < 2 || cost > MOST_COST) {\n                    return false;")
    @Slip(from = "|| cost < 1 || cost > MOST_COST) {\n                    return false;",
        to = "|| cost < 1 || cost > 8) {\n                    return false;")
    static void costsOfARecord(Due due) {
        due.no("cost 0", record(due, 8, 0));
        due.yes("cost 1", record(due, 8, 1));
        due.yes("cost 9", record(due, 8, 9));
        due.no("cost 10", record(due, 8, 10));
        due.no("cost 0 of the second", record(due, 11, 0));
        due.no("cost 10 of the second", record(due, 11, 10));
    }

    @Sentence("FLOGI, ASK, LOGIN one, a node that there is;")
    @Slip(from = "return size == 1 && shared.isNode(load(0));", to = "return size == 1 && load(0) <= shared.nodeCount;")
    @Slip(from = "return size == 1 && shared.isNode(load(0));", to = "return size == 1 && load(0) < 2;")
    @Slip(from = "return size == 1 && shared.isNode(load(0));", to = "return size <= 1 && shared.isNode(load(0));")
    @Slip(from = "return size == 1 && shared.isNode(load(0));", to = "return size >= 1 && shared.isNode(load(0));")
    @Slip(from = "                case FLOGI:\n                case ASK:", to = "                case FLOGI:\n                    return true;\n                case ASK:")
    @Slip(from = "                case FLOGI:\n                case ASK:", to = "                case ASK:\n                    return true;\n                case FLOGI:")
    @Slip(from = "                case LOGIN:\n                    return size", to = "                    return size")
    static void loadsOfOneNode(Due due) {
        for (int kind : new int[] {3, 5, 7}) {
            due.yes(kind + ", node 0", Scene.isTrue(due, kind, 0));
            due.yes(kind + ", the last node", Scene.isTrue(due, kind, 2));
            due.no(kind + ", behind it", Scene.isTrue(due, kind, 3));
            due.no(kind + ", node 255", Scene.isTrue(due, kind, 255));
            due.no(kind + ", no byte", Scene.isTrue(due, frame -> frame[13] == 0, kind));
            due.no(kind + ", four bytes", Scene.isTrue(due, kind, 0, 0, 0, 0));
        }
    }

    @Sentence("TOLD four, a node that there is, then 0 or a number whose last byte is that node + 1;")
    @Slip(from = "return size == 4 && shared.isNode(load(0))", to = "return size >= 4 && shared.isNode(load(0))")
    @Slip(from = "return size == 4 && shared.isNode(load(0))", to = "return size <= 4 && shared.isNode(load(0))")
    @Slip(from = "return size == 4 && shared.isNode(load(0))", to = "return size == 4 && load(0) <= shared.nodeCount")
    @Slip(from = "number(HEADER + 1, 3) == 0 ||", to = "load(3) == 0 ||")
    @Slip(from = "|| load(3) == load(0) + 1", to = "|| load(3) == load(0) + 1 && load(1) > 0")
    @Slip(from = "|| load(3) == load(0) + 1", to = "|| load(3) > 0")
    static void told(Due due) {
        due.yes("0", Scene.isTrue(due, 6, 2, 0, 0, 0));
        due.yes("an address", Scene.isTrue(due, 6, 2, 1, 0, 3));
        due.yes("the last byte alone", Scene.isTrue(due, 6, 2, 0, 0, 3));
        due.yes("a great number", Scene.isTrue(due, 6, 0, 255, 255, 1));
        due.no("not 0, and its last byte is", Scene.isTrue(due, 6, 2, 1, 0, 0));
        due.no("not 0 in the middle", Scene.isTrue(due, 6, 2, 0, 1, 0));
        due.no("the node", Scene.isTrue(due, 6, 2, 0, 0, 2));
        due.no("the node + 2", Scene.isTrue(due, 6, 2, 0, 0, 4));
        due.no("no such node", Scene.isTrue(due, 6, 3, 0, 0, 0));
        due.no("no such node + 1", Scene.isTrue(due, 6, 3, 0, 0, 4));
        due.no("one byte", Scene.isTrue(due, frame -> frame[16] == 1, 6, 0));
        due.no("eight bytes", Scene.isTrue(due, 6, 0, 0, 0, 1, 0, 0, 0, 0));
    }

    @Sentence("COMMAND four, the second 0 or 1;")
    @Slip(from = "return size == 4 && load(1) <= 1;", to = "return size >= 4 && load(1) <= 1;")
    @Slip(from = "return size == 4 && load(1) <= 1;", to = "return size <= 4 && load(1) <= 1;")
    @Slip(from = "return size == 4 && load(1) <= 1;", to = "return size == 4 && load(1) <= 2;")
    @Slip(from = "return size == 4 && load(1) <= 1;", to = "return size == 4 && load(1) == 0;")
    @Slip(from = "return size == 4 && load(1) <= 1;", to = "return size == 4 && load(1) <= 1 && load(0) < 2;")
    static void command(Due due) {
        due.yes("READ", Scene.isTrue(due, 9, 255, 0, 255, 255));
        due.yes("WRITE", Scene.isTrue(due, 9, 255, 1, 255, 255));
        due.no("2", Scene.isTrue(due, 9, 0, 2, 0, 1));
        due.no("255", Scene.isTrue(due, 9, 0, 255, 0, 1));
        due.no("one byte", Scene.isTrue(due, frame -> frame[14] == 0, 9, 0));
        due.no("eight bytes", Scene.isTrue(due, 9, 0, 0, 0, 1, 0, 0, 0, 0));
    }

    @Sentence("READY one;")
    @Slip(from = "return size == 1;", to = "return size <= 1;")
    @Slip(from = "return size == 1;", to = "return size >= 1;")
    @Slip(from = "return size == 1;", to = "return size == 1 && load(0) <= 4;")
    static void ready(Due due) {
        due.yes("any byte", Scene.isTrue(due, 10, 255));
        due.yes("0", Scene.isTrue(due, 10, 0));
        due.no("no byte", Scene.isTrue(due, 10));
        due.no("four bytes", Scene.isTrue(due, 10, 1, 0, 0, 0));
    }

    @Sentence("DATA eight;")
    @Slip(from = "return size == 8;", to = "return size <= 8;")
    @Slip(from = "return size == 8;", to = "return size >= 8;")
    static void data(Due due) {
        due.yes("eight bytes", Scene.isTrue(due, 11, 255, 0, 0, 0, 0, 0, 0, 255));
        due.no("four bytes", Scene.isTrue(due, 11, 0, 0, 0, 0));
        due.no("ten bytes", Scene.isTrue(due, 11, 0, 0, 0, 0, 0, 0, 0, 0, 0, 0));
    }

    @Sentence("DONE one, 0 or 1;")
    @Slip(from = "return size == 1 && load(0) <= 1;", to = "return size <= 1 && load(0) <= 1;")
    @Slip(from = "return size == 1 && load(0) <= 1;", to = "return size >= 1 && load(0) <= 1;")
    @Slip(from = "return size == 1 && load(0) <= 1;", to = "return size == 1 && load(0) <= 2;")
    @Slip(from = "return size == 1 && load(0) <= 1;", to = "return size == 1 && load(0) == 0;")
    static void done(Due due) {
        due.yes("good", Scene.isTrue(due, 12, 0));
        due.yes("bad", Scene.isTrue(due, 12, 1));
        due.no("2", Scene.isTrue(due, 12, 2));
        due.no("255", Scene.isTrue(due, 12, 255));
        due.no("no byte", Scene.isTrue(due, frame -> frame[13] == 0, 12));
        due.no("four bytes", Scene.isTrue(due, 12, 0, 0, 0, 0));
    }

    @Sentence("all other KINDS any.")
    @Slip(from = "                default:\n                    return true;", to = "                default:\n                    return size == 0;")
    @Slip(from = "                default:\n                    return true;", to = "                default:\n                    return kind() > 0;")
    @Slip(from = "                default:\n                    return true;", to = "                default:\n                    return kind() <= ABORTED;")
    static void otherKinds(Due due) {
        for (int kind : new int[] {0, 4, 8, 13, 14, 15, 255}) {
            due.yes(kind + " with no byte", Scene.isTrue(due, kind));
            due.yes(kind + " with one", Scene.isTrue(due, kind, 255));
            due.yes(kind + " with four", Scene.isTrue(due, kind, 255, 255, 255, 255));
            due.yes(kind + " with eight", Scene.isTrue(due, kind, 255, 255, 255, 255, 255, 255, 255, 255));
        }
    }
}
