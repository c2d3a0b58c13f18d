/** Ways: least sums, ties, switches that are not joined, not reached, or OFF. */
final class WayEdges {
    private WayEdges() {
    }

    @Sentence("WAYS go by the records that a switch keeps (its own as issued last):")
    @Slip(from = "return one.domainNow == domain && !one.off ? OWN_DOMAIN : one.wayTo(domain);",
        to = "int found = one.wayTo(domain);\n        boolean there = found >= 0 && one.ports[found].up;\n"
        + "        return one.domainNow == domain && !one.off ? OWN_DOMAIN : there ? found : -1;")
    @Slip(from = "            shared.tally(ISSUED);\n            findWays();", to = "            shared.tally(ISSUED);")
    static void byTheRecordsThatAreKept(Due due) {
        ZonedFabric x = Scene.row(3, 2);
        x.tick(30);
        x.cut(0);
        due.is("its own as issued last tells the neighbour", x.way(0, 3), 1);
        due.is("at the other end", x.way(1, 1), 0);
        x.tick(1);
        due.is("the next one does not", x.way(0, 3), -1);
        due.is("at the other end", x.way(1, 1), -1);
        due.is("one that keeps the old record", x.way(2, 1), 0);
        x.tick(1);
        due.is("till the new one comes", x.way(2, 1), -1);
    }

    @Sentence("switches are joined where both tell of one another;")
    @Slip(from = "return costs[a][b] < FAR && costs[b][a] < FAR;", to = "return costs[a][b] < FAR;")
    static void joinedWhereBothTell(Due due) {
        // 2 has not heard the HELLO of 1, which tells of it
        ZonedFabric x = new ZonedFabric(3, 1, 2);
        x.wire(0, 1, 1, 0, 1);
        x.wire(1, 1, 2, 0, 1);
        x.wire(0, 2, 2, 1, 9);
        x.tick(1);
        x.flip(1, 0, 3);
        x.tick(60);
        due.is("1 tells of 2", x.record(0, 1, 2), 2);
        due.is("2 does not of 1", x.record(0, 2, 2), 1);
        due.is("0's way to 2", x.way(0, 3), 2);
        due.is("1's way to 2", x.way(1, 3), 0);
        due.is("2's way to 1", x.way(2, 2), 1);
        x.cut(1);
        x.join(1);
        x.tick(20);
        due.is("both tell: 0's way to 2", x.way(0, 3), 1);
        due.is("2's way to 1", x.way(2, 2), 0);
    }

    @Sentence("the cost from one to the other is the least that it tells of.")
    @Slip(from = "costs[a][b] = Math.min(costs[a][b], notices[a].neighbourCost(i));", to = "costs[a][b] = notices[a].neighbourCost(i);")
    @Slip(from = "costs[a][b] = Math.min(costs[a][b], notices[a].neighbourCost(i));",
        to = "costs[a][b] = costs[a][b] < FAR ? costs[a][b] : notices[a].neighbourCost(i);")
    @Slip(from = "costs[a][b] = Math.min(costs[a][b], notices[a].neighbourCost(i));",
        to = "costs[a][b] = costs[a][b] < FAR ? Math.max(costs[a][b], notices[a].neighbourCost(i)) : notices[a].neighbourCost(i);")
    static void leastOfSeveralCosts(Due due) {
        for (int cheap = 0; cheap < 2; cheap++) {
            // 1 and 2 have two wires, of 3 and 7; over them the sum to 2 is 4, straight it is 5
            ZonedFabric x = new ZonedFabric(3, 1, 2);
            x.wire(0, 4, 1, 0, 1);
            x.wire(1, 1, 2, 1, cheap == 0 ? 3 : 7);
            x.wire(1, 2, 2, 2, cheap == 0 ? 7 : 3);
            x.wire(0, 3, 2, 0, 5);
            x.tick(40);
            due.is("0's way to 2", x.way(0, 3), 4);
            due.is("1's way to 2", x.way(1, 3), 1 + cheap);
            due.is("2's way to 0", x.way(2, 1), 1 + cheap);
            x.cut(1 + cheap);
            x.tick(20);
            due.is("the dear one alone: 0's way to 2", x.way(0, 3), 3);
            due.is("1's way to 2", x.way(1, 3), 0);
        }
    }

    @Sentence("From itself the switches of least sums of costs are found; the way to another one is the port (the least) to a neighbour, "
        + "as its own record tells, that tells of it, too, over which the least sum is reached (that port's cost, and the least "
        + "sum from that neighbour on).")
    @Slip(from = "for (int i = 0; i < own.neighbours(); i++) {\n                int neighbour", to = "for (int i = own.neighbours() - 1; i >= 0; i--) {\n                int neighbour")
    @Slip(from = "neighbour < sums.length && areJoined(number, neighbour)\n", to = "neighbour < sums.length\n")
    @Slip(from = "own.neighbourCost(i) + sums[neighbour][s] == sums[number][s]", to = "sums[neighbour][s] < FAR")
    @Slip(from = "for (int over = 0; over < sums.length; over++) {", to = "for (int over = 0; over < 1; over++) {")
    @Slip(from = "for (int over = 0; over < sums.length; over++) {", to = "for (int over = 1; over < sums.length - 1; over++) {")
    static void leastSumsAndLeastPorts(Due due) {
        for (int straight = 3; straight <= 5; straight++) {
            ZonedFabric x = new ZonedFabric(3, 1, 2);
            x.wire(0, 5, 2, 0, straight);
            x.wire(0, 2, 1, 0, 2);
            x.wire(1, 1, 2, 1, 2);
            x.tick(40);
            due.is("straight " + straight + ", round 4", x.way(0, 3), straight < 4 ? 5 : 2);
            due.is("and back", x.way(2, 1), straight <= 4 ? 0 : 1);
        }
        // the neighbour at port 0 does not tell of 0; the sum over it would be the least one, too
        ZonedFabric y = new ZonedFabric(3, 1, 2);
        y.wire(0, 0, 1, 0, 2);
        y.wire(0, 5, 2, 0, 1);
        y.wire(2, 1, 1, 1, 1);
        y.tick(1);
        y.flip(0, 0, 3);
        y.tick(60);
        due.is("0 tells of 1", y.record(0, 0, 2), 2);
        due.is("1 does not of 0", y.record(0, 1, 2), 1);
        due.is("the way is by 2", y.way(0, 2), 5);
        // the longest row there can be, and the dearest
        ZonedFabric z = new ZonedFabric(5, 1, 2);
        int[] row = {3, 0, 4, 1, 2};
        for (int i = 0; i < 4; i++) {
            z.wire(row[i], 1, row[i + 1], 0, 9);
        }
        z.tick(60);
        for (int i = 0; i < 5; i++) {
            for (int k = 0; k < 5; k++) {
                due.is("from " + row[i] + " to " + row[k], z.way(row[i], row[k] + 1), i == k ? 8 : i < k ? 1 : 0);
            }
        }
    }

    @Sentence("REACHED are those to which there is a way, and itself.")
    @Slip(from = "boolean reached = s == number || ways[s] != NONE;", to = "boolean reached = notices[s].isKept();")
    @Slip(from = "boolean reached = s == number || ways[s] != NONE;", to = "boolean reached = ways[s] != NONE;")
    static void reached(Due due) {
        // host 0 and node 1 at switch 0 alone; disc 2 at switch 2, whose record is kept when it is reached no more
        ZonedFabric x = new ZonedFabric(3, 3, 4);
        x.disc(2);
        x.wire(0, 7, 16, 0, 1);
        x.wire(0, 6, 17, 0, 1);
        x.wire(0, 1, 1, 0, 1);
        x.wire(1, 1, 2, 0, 1);
        x.wire(2, 7, 18, 0, 1);
        x.tick(30);
        due.is("2 is reached", x.way(0, 3), 1);
        due.is("a READ", read(x), 10);
        x.cut(3);
        x.tick(5);
        due.is("its record is kept", x.record(0, 2, 3), 1);
        due.is("2 is not reached", x.way(0, 3), -1);
        due.is("none is TOLD of the disc", read(x), 13);
        // the switch itself is reached without any wire to another
        ZonedFabric y = Scene.star(2, 2);
        y.tick(10);
        y.read(0, 1, 0, 0, 1);
        y.tick(20);
        due.is("TOLD by its own record", y.status(0), 10);
    }

    private static int read(ZonedFabric x) {
        int c = x.read(0, 2, 0, 0, 1);
        x.tick(125);
        return x.status(c);
    }

    @Sentence("A switch is OFF (by what another one, or itself, keeps, its own record as issued last), if a reached one with a lower "
        + "number has the same domain.")
    @Slip(from = "boolean reached = s == number || ways[s] != NONE;", to = "boolean reached = true;")
    @Slip(from = "boolean reached = s == number || ways[s] != NONE;", to = "boolean reached = ways[s] != NONE;")
    @Slip(from = "for (int s = 0; s < notices.length; s++) {\n                boolean reached", to = "for (int s = notices.length - 1; s >= 0; s--) {\n                boolean reached")
    @Slip(from = "return one.domainNow == domain && !one.off ?",
        to = "return one.domainNow == domain && (one.holders[domain] == NONE || one.holders[domain] == s) ?")
    static void offByALowerNumber(Due due) {
        ZonedFabric x = Scene.row(3, 2);
        x.tick(30);
        x.domain(2, 1);
        due.is("its own as issued last has domain 3", x.way(2, 1), 8);
        x.tick(1);
        due.is("2 has the domain of 0, and is OFF", x.way(2, 1), 0);
        due.is("0 is not", x.way(0, 1), 8);
        x.domain(2, 4);
        due.is("it is OFF till it issues", x.way(2, 4), -1);
        x.tick(1);
        due.is("then it is not", x.way(2, 4), 8);
        x.domain(2, 1);
        x.tick(10);
        due.is("2 is OFF", x.way(2, 1), 0);
        x.cut(0);
        x.tick(10);
        due.is("0 is not reached, 2 is not OFF", x.way(2, 1), 8);
        due.is("1's way to domain 1 is to 2", x.way(1, 1), 1);
        due.is("0 is as it was", x.way(0, 1), 8);
    }

    @Sentence("The way to a domain is that to the reached switch that has it and isn't OFF.")
    @Slip(from = "holders[domain] == NONE) {\n                    holders[domain] = s;", to = "s != number) {\n                    holders[domain] = s;")
    @Slip(from = "if (reached && domain > 0 && domain < holders.length && holders", to = "if (reached && domain > 0 && domain < LAST_DOMAIN && holders")
    @Slip(from = "if (reached && domain > 0 && domain < holders.length && holders", to = "if (reached && domain > 1 && domain < holders.length && holders")
    static void wayToADomain(Due due) {
        // 0, 1, 3 and 4 have domain 2; seen from 2 the lowest one that is reached has it
        ZonedFabric x = Scene.row(5, 2);
        x.domain(0, 2);
        x.domain(3, 2);
        x.domain(4, 2);
        x.tick(60);
        due.is("to 0", x.way(2, 2), 0);
        due.is("of 1, which is OFF, to 0", x.way(1, 2), 0);
        due.is("of 3, which is OFF, to 0", x.way(3, 2), 0);
        x.cut(0);
        x.tick(10);
        due.is("1 is OFF no more", x.way(1, 2), 8);
        due.is("to 1", x.way(2, 2), 0);
        x.cut(1);
        x.tick(10);
        due.is("to 3", x.way(2, 2), 1);
        due.is("3 is OFF no more", x.way(3, 2), 8);
        due.is("4 is", x.way(4, 2), 0);
        x.domain(3, 15);
        x.domain(2, 1);
        x.tick(10);
        due.is("the greatest domain", x.way(2, 15), 1);
        due.is("the least domain", x.way(3, 1), 0);
        due.is("of 4 to the least one", x.way(4, 1), 0);
        due.is("over 3 to 4", x.way(2, 2), 1);
        due.is("a domain that none has", x.way(2, 3), -1);
    }
}
