/** Switches, ports, nodes, units, blocks and wires: how many of each there are. */
final class ThingsEdges {
    private ThingsEdges() {
    }

    @Sentence("An object is used for at most 512 calls after it has been made; what later calls answer is free.")
    @Slip(from = "    public int count(int what) {",
        to = "    private int asked;\n    public int count(int what) {\n        if (++asked > 511) {\n            return -1;\n        }")
    static void theLastOf512Calls(Due due) {
        ZonedFabric x = new ZonedFabric(1, 1, 1);
        for (int call = 1; call <= 512; call++) {
            due.is("call " + call, x.count(0), 0);
        }
    }

    @Sentence({"==== THINGS There are SWITCHES 0, 1, .., each with PORTS 0 ..", "7 and a DOMAIN,"})
    @Slip(from = "int PORTS = 8;", to = "int PORTS = 7;")
    @Slip(from = "int PORTS = 8;", to = "int PORTS = 9;")
    @Slip(from = "p >= 0 && p < PORTS ?", to = "p >= 1 && p < PORTS ?")
    static void portsOfASwitch(Due due) {
        ZonedFabric x = new ZonedFabric(2, 2, 2);
        due.is("port -1", x.wire(0, -1, 1, 0, 1), -1);
        due.is("port 8", x.wire(0, 8, 1, 0, 1), -1);
        due.is("port 8 at the other end", x.wire(0, 0, 1, 8, 1), -1);
        due.is("port 0 to port 7", x.wire(0, 0, 1, 7, 1), 0);
        due.is("port 7 to port 0", x.wire(0, 7, 1, 0, 1), 1);
        due.is("port 7 is up", x.port(0, 7, 4), 1);
        due.is("port 0 is up", x.port(0, 0, 4), 1);
        due.is("there is no port 8", x.port(0, 8, 4), -1);
        due.is("there is no port -1", x.port(0, -1, 4), -1);
    }

    @Sentence("and NODES 0, 1, .., each with one port:")
    @Slip(from = "s >= NODE_BASE && p == 0 && shared.isNode", to = "s >= NODE_BASE && shared.isNode")
    @Slip(from = "s >= NODE_BASE && p == 0 && shared.isNode", to = "s >= NODE_BASE && p <= 0 && shared.isNode")
    static void onePortOfANode(Due due) {
        ZonedFabric x = new ZonedFabric(1, 2, 2);
        due.is("port 1 of a node", x.wire(0, 0, 16, 1, 1), -1);
        due.is("port -1 of a node", x.wire(0, 0, 16, -1, 1), -1);
        due.is("port 0 of node 0", x.wire(0, 0, 16, 0, 1), 0);
        due.is("port 0 of node 1", x.wire(0, 1, 17, 0, 1), 1);
        due.is("it is up", x.port(17, 0, 4), 1);
        due.is("there is no port 1", x.port(17, 1, 4), -1);
        due.is("there is no port -1", x.port(17, -1, 4), -1);
    }

    @Sentence("DISCS, which have UNITS 0, 1 of BLOCKS 0 .. 15 (64 bits each, 0 at first), and HOSTS.")
    @Slip(from = "blocks[unit * BLOCKS + block];", to = "blocks[unit * (BLOCKS - 1) + block];")
    @Slip(from = "data.addLoad(8, command.first + i);", to = "data.addLoad(8, (int) (command.first + i));")
    @Slip(from = "data.addLoad(8, blocks[at + i]);", to = "data.addLoad(8, blocks[at + i] & Long.MAX_VALUE);")
    @Slip(from = "int UNITS = 2;", to = "int UNITS = 1;")
    @Slip(from = "int BLOCKS = 16;", to = "int BLOCKS = 15;")
    @Slip(from = "block < 0 || block >= BLOCKS) {", to = "block < 0 || block > BLOCKS) {")
    static void unitsAndBlocks(Due due) {
        ZonedFabric x = Scene.star(2, 2);
        for (int b = 0; b < 32; b++) {
            due.is("block " + b + " at first", x.block(1, b / 16, b % 16), 0);
        }
        due.is("no block 16", x.block(1, 0, 16), Long.MIN_VALUE);
        due.is("no block -1", x.block(1, 1, -1), Long.MIN_VALUE);
        due.is("no unit 2", x.block(1, 2, 0), Long.MIN_VALUE);
        due.is("no unit -1", x.block(1, -1, 15), Long.MIN_VALUE);
        long[] values = {0x8000000000000001L, 0x0123456789ABCDEFL, -1L, 0xFEDCBA9876543210L};
        int[][] places = {{0, 0}, {0, 15}, {1, 0}, {1, 15}};
        x.tick(10);
        for (int i = 0; i < 4; i++) {
            due.is("write " + i, x.write(0, 1, places[i][0], places[i][1], 1, values[i]), i);
        }
        x.tick(40);
        for (int i = 0; i < 4; i++) {
            due.is("block of write " + i, x.block(1, places[i][0], places[i][1]), values[i]);
            due.is("read " + i, x.read(0, 1, places[i][0], places[i][1], 1), 4 + i);
        }
        x.tick(40);
        for (int i = 0; i < 4; i++) {
            due.is("got by read " + i, x.got(4 + i, 0), values[i]);
        }
        for (int b = 1; b < 31; b++) {
            if (b != 15 && b != 16) {
                due.is("block " + b + " is as it was", x.block(1, b / 16, b % 16), 0);
            }
        }
    }

    @Sentence("A WIRE joins two ports, of two switches, or of a switch and a node, with a COST; it is UP or cut.")
    @Slip(from = "!isSwitch(a) || a == b ||", to = "a == b ||")
    @Slip(from = "!isSwitch(a) || a == b ||", to = "!isSwitch(a) ||")
    static void endsOfAWire(Due due) {
        ZonedFabric x = new ZonedFabric(2, 2, 2);
        due.is("two ports of one switch", x.wire(0, 0, 0, 1, 1), -1);
        due.is("one port twice", x.wire(0, 0, 0, 0, 1), -1);
        due.is("two nodes", x.wire(16, 0, 17, 0, 1), -1);
        due.is("a node first", x.wire(16, 0, 1, 0, 1), -1);
        due.is("two switches", x.wire(0, 0, 1, 0, 1), 0);
        due.is("the higher switch first", x.wire(1, 1, 0, 1, 1), 1);
        due.is("a switch and a node", x.wire(1, 2, 16, 0, 1), 2);
        due.no("up, it is not joined", x.join(2));
        due.yes("up, it is cut", x.cut(2));
        due.no("cut, it is not cut", x.cut(2));
        due.yes("cut, it is joined", x.join(2));
    }

    @Sentence("A port is up with its wire.")
    @Slip(from = "secondEnds[wire].goDown();", to = "")
    @Slip(from = "        firstEnds[wire].goDown();\n", to = "        firstEnds[wire].up = false;\n        firstEnds[wire].up = secondEnds[wire].up;\n")
    @Slip(from = "secondEnds[wire].comeUp();", to = "")
    @Slip(from = "        second.comeUp();", to = "")
    static void upWithItsWire(Due due) {
        ZonedFabric x = new ZonedFabric(2, 1, 2);
        x.wire(0, 3, 1, 4, 1);
        x.wire(1, 2, 16, 0, 1);
        int[][] ends = {{0, 3}, {1, 4}, {1, 2}, {16, 0}};
        for (int round = 0; round < 3; round++) {
            for (int[] end : ends) {
                due.is("round " + round + ", end " + end[0], x.port(end[0], end[1], 4), round == 1 ? 0 : 1);
            }
            due.yes("wire 0", round == 0 ? x.cut(0) : round > 1 || x.join(0));
            due.yes("wire 1", round == 0 ? x.cut(1) : round > 1 || x.join(1));
        }
    }
}
