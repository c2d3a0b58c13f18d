import java.util.Random;

/** Random runs of calls, each answer against the one of the plain model. */
public final class ModelRunsTest {
    private static final int[] EDGES = {Integer.MIN_VALUE, -1, 0, 1, 7, 8, 15, 16, 17, 31, 300, 301, Integer.MAX_VALUE};
    private static int wrong = 0;

    private final long seed;
    private final Random random;
    private final ZonedFabric fabric;
    private final FabricModel model;
    private final StringBuilder run = new StringBuilder();
    private boolean broken;

    private ModelRunsTest(long seed) {
        this.seed = seed;
        random = new Random(seed);
        int switches = 1 + random.nextInt(5);
        int nodes = 1 + random.nextInt(8);
        int room = 1 + random.nextInt(4);
        if (random.nextInt(10) == 0) {
            switches = odd();
            nodes = odd();
            room = odd();
        }
        run.append("new(").append(switches).append(", ").append(nodes).append(", ").append(room).append(")");
        fabric = new ZonedFabric(switches, nodes, room);
        model = new FabricModel(switches, nodes, room);
    }

    public static void main(String[] args) {
        int runs = args.length > 0 ? Integer.parseInt(args[0]) : 400;
        long first = args.length > 1 ? Long.parseLong(args[1]) : 1;
        int[] sums = new int[20];
        for (long seed = first; seed < first + runs && wrong < 5; seed++) {
            ModelRunsTest test = new ModelRunsTest(seed);
            test.play();
            for (int i = 1; i <= 10; i++) {
                sums[i] += test.model.count(i);
            }
            for (FabricModel.Cmd c : test.model.cmds) {
                sums[10 + Math.max(0, c.end - 9)]++;
            }
        }
        StringBuilder seen = new StringBuilder("seen:");
        for (int i = 1; i < 15; i++) {
            seen.append(' ').append(sums[i]);
            if (sums[i] == 0) {
                wrong++;
                seen.append("(never!)");
            }
        }
        System.out.println(seen);
        if (wrong > 0) {
            System.exit(1);
        }
    }

    private int odd() {
        return EDGES[random.nextInt(EDGES.length)];
    }

    private void due(String call, long got, long want) {
        run.append("\n  ").append(call).append(" = ").append(want);
        check(call, got, want);
    }

    private void check(String call, long got, long want) {
        if (got != want && !broken) {
            broken = true;
            wrong++;
            System.out.println("seed " + seed + ": " + call + " answered " + got + ", due is " + want);
            if (wrong == 1) {
                System.out.println(run);
            }
        }
    }

    private static long bit(boolean b) {
        return b ? 1 : 0;
    }

    private void play() {
        int kind = random.nextInt(3);
        if (kind == 0) {
            buildStorm();
        } else {
            build();
        }
        int calls = 60 + random.nextInt(140);
        boolean busy = random.nextBoolean();
        for (int i = 0; i < calls && !broken; i++) {
            if (kind == 2 || kind == 0 && i % 25 == 24) {
                step(busy);
            } else {
                calmStep();
            }
            lookAtAll();
        }
        check("credits of the model", 0, model.creditFaults);
        check("commands that last too long", 0, model.tooLate);
    }

    private void build() {
        int nodes = model.nds.length;
        int switches = model.sws.length;
        for (int n = 0; n < nodes; n++) {
            if (random.nextInt(3) == 0 || n == nodes - 1) {
                due("disc(" + n + ")", bit(fabric.disc(n)), bit(model.disc(n)));
            }
        }
        for (int n = 0; n < nodes; n++) {
            if (random.nextInt(8) != 0) {
                wire(random.nextInt(switches), random.nextInt(8), 16 + n, 0, 1 + random.nextInt(9));
            }
        }
        int links = switches == 1 ? 0 : random.nextInt(2 * switches + 2);
        for (int i = 0; i < links; i++) {
            wire(random.nextInt(switches), random.nextInt(8), random.nextInt(switches), random.nextInt(8),
                1 + random.nextInt(random.nextBoolean() ? 2 : 9));
        }
        if (random.nextInt(3) == 0) {
            zoning(true);
            for (int n = 0; n < nodes; n++) {
                zone(random.nextInt(2), n, true);
            }
        }
        tick(random.nextInt(30));
    }

    /** All nodes have wires, few are discs: what the hosts want crowds at these. */
    private void buildStorm() {
        int nodes = model.nds.length;
        int switches = model.sws.length;
        due("disc(0)", bit(fabric.disc(0)), bit(model.disc(0)));
        if (random.nextInt(3) == 0) {
            due("disc(1)", bit(fabric.disc(1)), bit(model.disc(1)));
        }
        int discAt = random.nextInt(switches);
        int hostsAt = random.nextInt(3);
        for (int n = 0; n < nodes; n++) {
            int s = n == 0 ? discAt : hostsAt == 0 ? random.nextInt(switches) : (discAt + hostsAt) % switches;
            int p = random.nextInt(8);
            for (int i = 0; i < 8 && model.plug(s, p).other != null; i++) {
                p = (p + 1) % 8;
            }
            wire(s, p, 16 + n, 0, 1);
        }
        for (int s = 1; s < switches; s++) {
            int t = random.nextInt(s);
            for (int i = 0; i < 20 && model.plug(s, 0).other == null; i++) {
                wire(s, 0, t, random.nextInt(8), 1 + random.nextInt(3));
            }
        }
        tick(40);
    }

    private void calmStep() {
        int what = random.nextInt(12);
        if (what < 3) {
            busyHosts();
        } else if (what == 3) {
            fillHosts();
        } else if (what == 4) {
            spoil();
        } else if (what == 5 && random.nextInt(3) == 0) {
            craft();
        } else {
            tick(1 + random.nextInt(random.nextInt(4) > 0 ? 4 : 40));
        }
    }

    private void step(boolean busy) {
        int nodes = model.nds.length;
        int switches = model.sws.length;
        int what = random.nextInt(busy ? 26 : 40);
        if (what < 3) {
            command(random.nextInt(nodes), random.nextInt(nodes), random.nextInt(2), random.nextInt(17), random.nextInt(6));
        } else if (what < 8) {
            busyHosts();
        } else if (what < 11) {
            craft();
        } else if (what < 12) {
            spoil();
        } else if (what == 12) {
            cut(random.nextInt(model.wires.size() + 1));
        } else if (what == 13 || what == 14) {
            int w = random.nextInt(model.wires.size() + 1);
            due("join(" + w + ")", bit(fabric.join(w)), bit(model.join(w)));
        } else if (what == 15) {
            int s = random.nextInt(switches);
            int d = 1 + random.nextInt(random.nextBoolean() ? 5 : 15);
            due("domain(" + s + ", " + d + ")", bit(fabric.domain(s, d)), bit(model.domain(s, d)));
        } else if (what == 16) {
            zone(random.nextInt(3), random.nextInt(nodes), random.nextInt(3) > 0);
        } else if (what == 17 && random.nextInt(3) == 0) {
            zoning(random.nextBoolean());
        } else if (what == 18) {
            wire(random.nextInt(switches), random.nextInt(8), random.nextInt(3) == 0 ? 16 + random.nextInt(nodes)
                : random.nextInt(switches), random.nextInt(8), 1 + random.nextInt(9));
        } else if (what == 19) {
            wrongCalls();
        } else if (what == 20) {
            tick(random.nextInt(200));
        } else {
            tick(1 + random.nextInt(random.nextBoolean() ? 3 : 20));
        }
    }

    private void wire(int a, int p, int b, int q, int cost) {
        due("wire(" + a + ", " + p + ", " + b + ", " + q + ", " + cost + ")", fabric.wire(a, p, b, q, cost),
            model.wire(a, p, b, q, cost));
    }

    private void cut(int w) {
        due("cut(" + w + ")", bit(fabric.cut(w)), bit(model.cut(w)));
    }

    private void zone(int z, int n, boolean in) {
        due("zone(" + z + ", " + n + ", " + in + ")", bit(fabric.zone(z, n, in)), bit(model.zone(z, n, in)));
    }

    private void zoning(boolean on) {
        run.append("\n  zoning(").append(on).append(")");
        fabric.zoning(on);
        model.zonesOn = on;
    }

    private void tick(int n) {
        due("tick(" + n + ")", fabric.tick(n), model.tick(n));
    }

    private void command(int host, int disc, int unit, int block, int count) {
        if (random.nextBoolean()) {
            due("read(" + host + ", " + disc + ", " + unit + ", " + block + ", " + count + ")",
                fabric.read(host, disc, unit, block, count), model.begin(host, disc, false, unit, block, count, 0));
        } else {
            long v = random.nextBoolean() ? random.nextLong() : random.nextInt(10);
            due("write(" + host + ", " + disc + ", " + unit + ", " + block + ", " + count + ", " + v + ")",
                fabric.write(host, disc, unit, block, count, v),
                model.begin(host, disc, true, unit, block, count, v));
        }
    }

    private void busyHosts() {
        for (int n = 0; n < model.nds.length; n++) {
            for (int d = 0; d < model.nds.length; d++) {
                if (!model.nds[n].disc && model.nds[d].disc && random.nextInt(3) == 0) {
                    command(n, d, random.nextInt(2), random.nextInt(13), 1 + random.nextInt(4));
                }
            }
        }
    }

    /** As many commands as there may be, all to node 0. */
    private void fillHosts() {
        for (int i = 0; i < 4; i++) {
            for (int n = 1; n < model.nds.length; n++) {
                command(n, 0, random.nextInt(2), random.nextInt(13), 4);
            }
        }
        tick(random.nextInt(30));
    }

    /** A frame on the way, or null; the wire and side are left in where. */
    private int[] somewhere(int[] where) {
        for (int i = 0; i < 40 && !model.wires.isEmpty(); i++) {
            where[0] = random.nextInt(model.wires.size());
            where[1] = random.nextInt(2);
            int[] f = model.wayFrame(where[0], where[1]);
            if (f != null) {
                return f;
            }
        }
        return null;
    }

    private void flip(int w, int side, int bit) {
        due("flip(" + w + ", " + side + ", " + bit + ")", bit(fabric.flip(w, side, bit)), bit(model.flip(w, side, bit)));
    }

    private void spoil() {
        int[] where = new int[2];
        int[] f = somewhere(where);
        if (f != null) {
            flip(where[0], where[1], random.nextInt(8 * f.length + 2) - 1);
        }
    }

    /** Flips a frame into another one whose CHECK is right. */
    private void craft() {
        int[] where = new int[2];
        int[] f = somewhere(where);
        if (f == null) {
            return;
        }
        int[] wanted = f.clone();
        int changes = 1 + random.nextInt(3);
        for (int i = 0; i < changes; i++) {
            change(wanted);
        }
        FabricModel.setCheck(wanted);
        for (int bit = 0; bit < 8 * f.length; bit++) {
            if (((f[bit / 8] ^ wanted[bit / 8]) >> bit % 8 & 1) == 1) {
                flip(where[0], where[1], bit);
            }
        }
    }

    private void change(int[] f) {
        int what = random.nextInt(9);
        if (what == 0) {
            f[0] = random.nextInt(16);
        } else if (what == 1) {
            putAddress(f, 1);
        } else if (what == 2) {
            putAddress(f, 4);
        } else if (what == 3) {
            f[7 + random.nextInt(6)] = random.nextInt(5);
        } else if (f.length > 17) {
            int at = 13 + random.nextInt(f.length - 17);
            f[at] = random.nextInt(4) == 0 ? random.nextInt(256) : random.nextInt(10);
            if (f[0] == 2 && random.nextBoolean()) {
                f[16] = 200 + random.nextInt(50);
            }
        } else {
            f[random.nextInt(13)] ^= 1 << random.nextInt(8);
        }
    }

    private void putAddress(int[] f, int at) {
        int[] some = {0, 0xFFFFFC, 0xFFFFFD, 0xFFFFFE, 0, 0, 0, 0};
        int i = random.nextInt(some.length);
        int a = some[i];
        if (i >= 4) {
            a = model.address(random.nextInt(model.nds.length));
        }
        if (i >= 6) {
            a ^= 1 << random.nextInt(12);
        }
        f[at] = a >> 16;
        f[at + 1] = a >> 8 & 255;
        f[at + 2] = a & 255;
    }

    private void wrongCalls() {
        int a = odd();
        int b = odd();
        int c = odd();
        int d = odd();
        due("disc " + a, bit(fabric.disc(a)), bit(model.disc(a)));
        wire(a, b, c, d, odd());
        cut(a);
        due("join " + b, bit(fabric.join(b)), bit(model.join(b)));
        zone(a, b, true);
        due("domain " + a + " " + b, bit(fabric.domain(a, b)), bit(model.domain(a, b)));
        flip(a, b, c);
        if (a != 300) {
            tick(a);
        }
        command(a, b, c, d, odd());
        command(a & 7, b & 7, c, d, odd());
        due("status", fabric.status(a), model.status(a));
        due("got", fabric.got(a, b), model.got(a, b));
        due("when", fabric.when(a, b), model.when(a, b));
        due("block", fabric.block(a, b, c), model.block(a, b, c));
        due("way", fabric.way(a, b), model.way(a, b));
        due("record", fabric.record(a, b, c), model.record(a, b, c));
        due("port", fabric.port(a, b, c), model.port(a, b, c));
        due("address", fabric.address(a), model.address(a));
        due("frame", fabric.frame(a, b, c), model.frame(a, b, c));
        due("count", fabric.count(a), model.count(a));
        due("broken", fabric.broken(a), 0);
    }

    private void lookAtAll() {
        for (int i = -1; i <= 11; i++) {
            check("count(" + i + ")", fabric.count(i), model.count(i));
        }
        for (int s = 0; s < model.sws.length; s++) {
            for (int r = 0; r < model.sws.length; r++) {
                for (int what = -1; what <= 5; what++) {
                    check("record(" + s + ", " + r + ", " + what + ")", fabric.record(s, r, what),
                        model.record(s, r, what));
                }
            }
            for (int d = 0; d <= 16; d++) {
                check("way(" + s + ", " + d + ")", fabric.way(s, d), model.way(s, d));
            }
            for (int p = 0; p < 8; p++) {
                lookAtPort(s, p);
            }
        }
        for (int n = 0; n < model.nds.length; n++) {
            check("address(" + n + ")", fabric.address(n), model.address(n));
            lookAtPort(16 + n, 0);
            for (int b = 0; b < 32; b++) {
                check("block(" + n + ", " + b + ")", fabric.block(n, b / 16, b % 16), model.block(n, b / 16, b % 16));
            }
        }
        for (int w = 0; w < model.wires.size(); w++) {
            for (int i = 0; i < 56; i += 8) {
                check("frame(" + w + ", 0, " + i + ")", fabric.frame(w, 0, i), model.frame(w, 0, i));
                check("frame(" + w + ", 1, " + i + ")", fabric.frame(w, 1, i), model.frame(w, 1, i));
            }
        }
        for (int c = 0; c < model.cmds.size(); c++) {
            check("status(" + c + ")", fabric.status(c), model.status(c));
            for (int i = 0; i < 4; i++) {
                check("got(" + c + ", " + i + ")", fabric.got(c, i), model.got(c, i));
                check("when(" + c + ", " + i + ")", fabric.when(c, i), model.when(c, i));
            }
        }
    }

    private void lookAtPort(int s, int p) {
        for (int what = -1; what <= 5; what++) {
            check("port(" + s + ", " + p + ", " + what + ")", fabric.port(s, p, what), model.port(s, p, what));
        }
    }
}
