import java.util.ArrayDeque;
import java.util.ArrayList;
import java.util.Arrays;
import java.util.List;
import java.util.TreeMap;
import java.util.TreeSet;

/**
 * The document's words a second time, as plainly as they can be said and without any thought of speed:
 * every frame is checked wholly wherever it comes, ways are sought anew at every question.
 */
final class FabricModel {
    static final int FE = 0xFFFFFE;
    static final int FC = 0xFFFFFC;
    static final int FD = 0xFFFFFD;

    static final class Plug {
        final int owner;
        final int number;
        Plug other;
        int cost;
        boolean up;
        int credits;
        int creditsToCome;
        int[] onTheWay;
        final ArrayDeque<int[]> queue = new ArrayDeque<>();
        final ArrayDeque<int[]> buffers = new ArrayDeque<>();
        Integer neighbour;
        Integer given;
        Integer lastCall;
        int[] staying;
        int stayed;

        Plug(int owner, int number) {
            this.owner = owner;
            this.number = number;
        }

        boolean toNode() {
            return other != null && other.owner >= 16;
        }
    }

    static final class Rec {
        int[] load;
        int of;
        int issue;
        int domain;
        int kept;
        final List<int[]> neighbours = new ArrayList<>();
        final List<int[]> nodes = new ArrayList<>();

        Rec(int[] load, int kept) {
            this.load = load;
            this.kept = kept;
            of = load[0];
            issue = load[1] << 16 | load[2] << 8 | load[3];
            domain = load[4];
            int at = 6;
            for (int i = 0; i < load[5]; i++, at += 3) {
                neighbours.add(new int[] {load[at], load[at + 1], load[at + 2]});
            }
            int count = load[at++];
            for (int i = 0; i < count; i++, at += 2) {
                nodes.add(new int[] {load[at], load[at + 1]});
            }
        }
    }

    static final class Sw {
        final int number;
        int domain;
        final Plug[] plugs = new Plug[8];
        final TreeMap<Integer, Rec> kept = new TreeMap<>();

        Sw(int number) {
            this.number = number;
            domain = number + 1;
            for (int p = 0; p < 8; p++) {
                plugs[p] = new Plug(number, p);
            }
        }
    }

    static final class Cmd {
        int number;
        int host;
        int disc;
        boolean write;
        int unit;
        int block;
        int count;
        long v;
        final Long[] got = new Long[4];
        int phase;
        int end = -1;
        int began;
        int ended = -1;
        int phaseBegan;
        int discAddress;
    }

    static final class Open {
        int ox;
        int rx;
        int from;
        int unit;
        int block;
        int count;
        int since;
        final Long[] values = new Long[4];
    }

    static final class Nd {
        final int number;
        final Plug plug;
        boolean disc;
        int address;
        final TreeMap<Integer, Integer> hostLogins = new TreeMap<>();
        final ArrayList<Integer> discLogins = new ArrayList<>();
        final ArrayList<Open> open = new ArrayList<>();
        final long[][] blocks = new long[2][16];
        int rx;

        Nd(int number) {
            this.number = number;
            plug = new Plug(16 + number, 0);
        }

        void loseLogins() {
            hostLogins.clear();
            discLogins.clear();
            open.clear();
        }
    }

    final int room;
    final Sw[] sws;
    final Nd[] nds;
    final List<Plug[]> wires = new ArrayList<>();
    final List<Cmd> cmds = new ArrayList<>();
    final List<TreeSet<Integer>> zones = new ArrayList<>();
    boolean zonesOn;
    int time;
    final int[] counts = new int[11];
    int tooLate;
    int creditFaults;

    FabricModel(int switches, int nodes, int room) {
        sws = new Sw[switches < 1 || switches > 5 ? 2 : switches];
        nds = new Nd[nodes < 1 || nodes > 8 ? 2 : nodes];
        this.room = room < 1 || room > 4 ? 2 : room;
        for (int i = 0; i < sws.length; i++) {
            sws[i] = new Sw(i);
        }
        for (int i = 0; i < nds.length; i++) {
            nds[i] = new Nd(i);
        }
        for (int z = 0; z < 8; z++) {
            zones.add(new TreeSet<>());
        }
    }

    // ---- frames

    static int check(int[] bytes, int size) {
        int c = -1;
        for (int i = 0; i < size; i++) {
            c ^= bytes[i];
            for (int k = 0; k < 8; k++) {
                boolean out = (c & 1) == 1;
                c >>>= 1;
                if (out) {
                    c ^= 0xEDB88320;
                }
            }
        }
        return ~c;
    }

    static void setCheck(int[] bytes) {
        int size = bytes.length - 4;
        int c = check(bytes, size);
        for (int i = 0; i < 4; i++) {
            bytes[size + i] = c >>> 24 - 8 * i & 255;
        }
    }

    static int[] make(int kind, int to, int from, int ox, int rx, int part, int... load) {
        int[] bytes = new int[13 + load.length + 4];
        int[] head = {kind, to >> 16 & 255, to >> 8 & 255, to & 255, from >> 16 & 255, from >> 8 & 255, from & 255,
            ox >> 8 & 255, ox & 255, rx >> 8 & 255, rx & 255, part, load.length};
        System.arraycopy(head, 0, bytes, 0, 13);
        System.arraycopy(load, 0, bytes, 13, load.length);
        setCheck(bytes);
        return bytes;
    }

    static int to(int[] f) {
        return f[1] << 16 | f[2] << 8 | f[3];
    }

    static int from(int[] f) {
        return f[4] << 16 | f[5] << 8 | f[6];
    }

    static int ox(int[] f) {
        return f[7] << 8 | f[8];
    }

    static int rx(int[] f) {
        return f[9] << 8 | f[10];
    }

    static int[] load(int[] f) {
        return Arrays.copyOfRange(f, 13, f.length - 4);
    }

    static int[] eight(long v) {
        int[] bytes = new int[8];
        for (int i = 0; i < 8; i++) {
            bytes[i] = (int) (v >>> 56 - 8 * i) & 255;
        }
        return bytes;
    }

    static long eight(int[] bytes) {
        long v = 0;
        for (int b : bytes) {
            v = v << 8 | b;
        }
        return v;
    }

    boolean isTrue(int[] f) {
        int[] copy = f.clone();
        setCheck(copy);
        int[] l = load(f);
        if (!Arrays.equals(copy, f) || f[12] != l.length) {
            return false;
        }
        switch (f[0]) {
            case 1: return l.length == 1 && l[0] < sws.length;
            case 2: return recordForm(l);
            case 3: case 5: case 7: return l.length == 1 && l[0] < nds.length;
            case 6: return l.length == 4 && l[0] < nds.length
                && (l[1] == 0 && l[2] == 0 && l[3] == 0 || l[3] == l[0] + 1);
            case 9: return l.length == 4 && (l[1] == 0 || l[1] == 1);
            case 10: return l.length == 1;
            case 11: return l.length == 8;
            case 12: return l.length == 1 && (l[0] == 0 || l[0] == 1);
            default: return true;
        }
    }

    boolean recordForm(int[] l) {
        ArrayDeque<Integer> rest = new ArrayDeque<>();
        for (int b : l) {
            rest.add(b);
        }
        if (rest.size() < 6 || rest.poll() >= sws.length) {
            return false;
        }
        rest.poll();
        rest.poll();
        rest.poll();
        int domain = rest.poll();
        if (domain < 1 || domain > 15) {
            return false;
        }
        int neighbours = rest.poll();
        int before = -1;
        for (int i = 0; i < neighbours; i++) {
            if (rest.size() < 3) {
                return false;
            }
            int port = rest.poll();
            int other = rest.poll();
            int cost = rest.poll();
            if (port > 7 || port <= before || other >= sws.length || cost < 1 || cost > 9) {
                return false;
            }
            before = port;
        }
        if (rest.isEmpty()) {
            return false;
        }
        int nodes = rest.poll();
        TreeSet<Integer> seen = new TreeSet<>();
        before = -1;
        for (int i = 0; i < nodes; i++) {
            if (rest.size() < 2) {
                return false;
            }
            int node = rest.poll();
            int port = rest.poll();
            if (port > 7 || port <= before || node >= nds.length || !seen.add(node)) {
                return false;
            }
            before = port;
        }
        return rest.isEmpty();
    }

    void queueUp(Plug plug, int[] frame) {
        if (!plug.up) {
            return;
        }
        if (plug.queue.size() == 32) {
            counts[5]++;
        } else {
            plug.queue.add(frame);
        }
    }

    boolean canSend(Plug plug) {
        return plug.up && plug.credits > 0 && plug.onTheWay == null;
    }

    void send(Plug plug, int[] frame) {
        plug.credits--;
        plug.onTheWay = frame;
        counts[6]++;
    }

    int[] leaveBuffer(Plug plug) {
        plug.other.creditsToCome++;
        plug.staying = null;
        return plug.buffers.poll();
    }

    boolean common(int a, int b) {
        if (a < 0 || b < 0 || a >= nds.length || b >= nds.length) {
            return false;
        }
        if (!zonesOn) {
            return true;
        }
        for (TreeSet<Integer> zone : zones) {
            if (zone.contains(a) && zone.contains(b)) {
                return true;
            }
        }
        return false;
    }

    // ---- ways

    boolean tells(Sw s, int a, int b) {
        Rec rec = s.kept.get(a);
        if (rec != null) {
            for (int[] n : rec.neighbours) {
                if (n[1] == b) {
                    return true;
                }
            }
        }
        return false;
    }

    /** Least sums from a switch to all, by going along every simple path. */
    int leastSum(Sw s, int at, int goal, int seen) {
        if (at == goal) {
            return 0;
        }
        int best = Integer.MAX_VALUE;
        for (int b = 0; b < sws.length; b++) {
            if ((seen >> b & 1) == 0 && tells(s, at, b) && tells(s, b, at)) {
                int cost = Integer.MAX_VALUE;
                for (int[] n : s.kept.get(at).neighbours) {
                    if (n[1] == b) {
                        cost = Math.min(cost, n[2]);
                    }
                }
                int rest = leastSum(s, b, goal, seen | 1 << b);
                if (rest != Integer.MAX_VALUE) {
                    best = Math.min(best, cost + rest);
                }
            }
        }
        return best;
    }

    int wayToSwitch(Sw s, int goal) {
        Rec own = s.kept.get(s.number);
        int least = leastSum(s, s.number, goal, 1 << s.number);
        if (own == null || least == Integer.MAX_VALUE) {
            return -1;
        }
        for (int[] n : own.neighbours) {
            if (tells(s, n[1], s.number)) {
                int rest = leastSum(s, n[1], goal, 1 << n[1]);
                if (rest != Integer.MAX_VALUE && n[2] + rest == least) {
                    return n[0];
                }
            }
        }
        return -1;
    }

    boolean reached(Sw s, int x) {
        return x == s.number ? s.kept.containsKey(x) : wayToSwitch(s, x) >= 0;
    }

    boolean isOff(Sw s, int x) {
        Rec rec = s.kept.get(x);
        for (int y = 0; rec != null && y < x; y++) {
            if (reached(s, y) && s.kept.get(y).domain == rec.domain) {
                return true;
            }
        }
        return false;
    }

    int wayToDomain(Sw s, int domain) {
        for (int x = 0; x < sws.length; x++) {
            if (reached(s, x) && s.kept.get(x).domain == domain && !isOff(s, x)) {
                return x == s.number ? -1 : wayToSwitch(s, x);
            }
        }
        return -1;
    }

    // ---- a tick

    int tickOnce() {
        time++;
        int arrived = 0;
        for (Plug[] wire : wires) {
            for (Plug plug : wire) {
                if (plug.onTheWay != null) {
                    plug.other.buffers.add(plug.onTheWay);
                    plug.onTheWay = null;
                    arrived++;
                }
                plug.credits += plug.creditsToCome;
                plug.creditsToCome = 0;
            }
        }
        for (Plug[] wire : wires) {
            for (Plug plug : wire) {
                if (plug.up && (plug.credits + plug.other.buffers.size() != room || plug.buffers.size() > room)) {
                    creditFaults++;
                }
            }
        }
        for (Sw s : sws) {
            switchTimers(s);
            for (int i = 0; i < 8; i++) {
                Plug plug = s.plugs[(time + i) % 8];
                if (canSend(plug) && !plug.queue.isEmpty()) {
                    send(plug, plug.queue.poll());
                }
            }
            for (int i = 0; i < 8; i++) {
                Plug plug = s.plugs[(time + i) % 8];
                if (!plug.buffers.isEmpty()) {
                    handle(s, plug);
                }
            }
        }
        for (Nd n : nds) {
            nodeTurn(n);
        }
        for (Cmd c : cmds) {
            if (c.end < 0 && time - c.began >= 181) {
                tooLate++;
            }
        }
        return arrived;
    }

    void switchTimers(Sw s) {
        for (Plug plug : s.plugs) {
            if (plug.given != null && (isOff(s, s.number) || plug.given >> 16 != s.domain)) {
                plug.given = null;
                queueUp(plug, make(4, 0, FE, 0, 0, 0));
            }
        }
        s.kept.values().removeIf(rec -> time - rec.kept >= 150);
        for (Plug plug : s.plugs) {
            if (plug.up && !plug.toNode() && plug.neighbour == null
                    && (plug.lastCall == null || time - plug.lastCall >= 11)) {
                plug.lastCall = time;
                queueUp(plug, make(1, FD, FD, 0, 0, 0, s.number));
            }
        }
        Rec own = s.kept.get(s.number);
        int issue = own == null ? 1 : own.issue + 1;
        int[] wouldTell = ownLoad(s, issue);
        boolean same = own != null && Arrays.equals(Arrays.copyOfRange(own.load, 4, own.load.length),
            Arrays.copyOfRange(wouldTell, 4, wouldTell.length));
        if (!same || time - own.kept >= 40) {
            s.kept.put(s.number, new Rec(wouldTell, time));
            counts[8]++;
            for (Plug plug : s.plugs) {
                if (plug.neighbour != null) {
                    queueUp(plug, make(2, FD, FD, 0, 0, 0, wouldTell));
                }
            }
        }
    }

    int[] ownLoad(Sw s, int issue) {
        List<Integer> neighbours = new ArrayList<>();
        List<Integer> nodes = new ArrayList<>();
        for (Plug plug : s.plugs) {
            if (plug.neighbour != null) {
                neighbours.addAll(List.of(plug.number, plug.neighbour, plug.cost));
            }
            if (plug.given != null) {
                nodes.addAll(List.of(plug.other.owner - 16, plug.number));
            }
        }
        List<Integer> all = new ArrayList<>(List.of(s.number, issue >> 16 & 255, issue >> 8 & 255, issue & 255,
            s.domain, neighbours.size() / 3));
        all.addAll(neighbours);
        all.add(nodes.size() / 2);
        all.addAll(nodes);
        return all.stream().mapToInt(i -> i).toArray();
    }

    void handle(Sw s, Plug plug) {
        int[] f = plug.buffers.peek();
        if (!isTrue(f)) {
            counts[1]++;
            leaveBuffer(plug);
            return;
        }
        if (to(f) >= FC && to(f) <= FE) {
            leaveBuffer(plug);
            take(s, plug, f);
            return;
        }
        int gone = 0;
        Plug out = null;
        int node = f[3] - 1;
        if (plug.toNode() && (plug.given == null || plug.given != from(f) || !common(plug.other.owner - 16, node))) {
            gone = 2;
        } else if (f[1] == s.domain && !isOff(s, s.number)) {
            if (f[2] > 7 || !s.plugs[f[2]].up || !s.plugs[f[2]].toNode() || s.plugs[f[2]].other.owner != 16 + node) {
                gone = 3;
            } else if (!common(f[6] - 1, node)) {
                gone = 2;
            } else {
                out = s.plugs[f[2]];
            }
        } else {
            int way = wayToDomain(s, f[1]);
            if (way < 0) {
                gone = 3;
            } else {
                out = s.plugs[way];
            }
        }
        if (gone > 0) {
            counts[gone]++;
            leaveBuffer(plug);
        } else if (canSend(out) && out.queue.isEmpty()) {
            send(out, leaveBuffer(plug));
            counts[7]++;
        } else {
            plug.stayed = plug.staying == f ? plug.stayed + 1 : 1;
            plug.staying = f;
            if (plug.stayed == 25) {
                counts[4]++;
                leaveBuffer(plug);
            }
        }
    }

    void take(Sw s, Plug plug, int[] f) {
        int kind = f[0];
        if (!plug.toNode() && to(f) == FD && kind == 1) {
            plug.neighbour = f[13];
            for (Rec rec : s.kept.values()) {
                if (rec.of != s.number) {
                    queueUp(plug, make(2, FD, FD, 0, 0, 0, rec.load));
                }
            }
        }
        if (!plug.toNode() && to(f) == FD && kind == 2) {
            Rec rec = new Rec(load(f), time);
            Rec old = s.kept.get(rec.of);
            if (rec.of != s.number && rec.issue > (old == null ? 0 : old.issue)) {
                s.kept.put(rec.of, rec);
                for (Plug other : s.plugs) {
                    if (other != plug && other.neighbour != null) {
                        queueUp(other, make(2, FD, FD, 0, 0, 0, rec.load));
                    }
                }
            }
        }
        if (plug.toNode() && to(f) == FE && kind == 3 && !isOff(s, s.number)) {
            plug.given = s.domain << 16 | plug.number << 8 | plug.other.owner - 16 + 1;
            queueUp(plug, make(4, plug.given, FE, 0, 0, 0));
        }
        if (plug.toNode() && to(f) == FC && kind == 5) {
            if (plug.given == null || plug.given != from(f)) {
                counts[2]++;
                return;
            }
            int a = common(plug.other.owner - 16, f[13]) ? told(s, f[13]) : 0;
            queueUp(plug, make(6, plug.given, FC, 0, 0, 0, f[13], a >> 16, a >> 8 & 255, a & 255));
        }
    }

    int told(Sw s, int node) {
        for (Rec rec : s.kept.values()) {
            if (reached(s, rec.of) && !isOff(s, rec.of)) {
                for (int[] n : rec.nodes) {
                    if (n[0] == node) {
                        return rec.domain << 16 | n[1] << 8 | node + 1;
                    }
                }
            }
        }
        return 0;
    }

    void nodeTurn(Nd n) {
        while (!n.plug.buffers.isEmpty()) {
            int[] f = leaveBuffer(n.plug);
            if (!isTrue(f)) {
                counts[1]++;
            } else if (f[0] == 4 && from(f) == FE) {
                if (n.address != 0 && n.address != to(f)) {
                    n.loseLogins();
                }
                n.address = to(f);
            } else if (n.address != 0 && to(f) == n.address) {
                if (n.disc) {
                    discTakes(n, f);
                } else {
                    hostTakes(n, f);
                }
            }
        }
        if (n.plug.up && (n.plug.lastCall == null || time - n.plug.lastCall >= (n.address == 0 ? 30 : 90))) {
            n.plug.lastCall = time;
            queueUp(n.plug, make(3, FE, n.address, 0, 0, 0, n.number));
        }
        for (Cmd c : cmds) {
            if (c.host == n.number && c.end < 0) {
                commandTimer(n, c);
            }
        }
        n.open.removeIf(o -> time - o.since >= 120);
        if (canSend(n.plug) && !n.plug.queue.isEmpty()) {
            send(n.plug, n.plug.queue.poll());
        }
    }

    // ---- hosts

    void commandTimer(Nd n, Cmd c) {
        if (c.phase <= 1 && time - c.began >= 120) {
            end(c, 13);
        } else if (c.phase == 2 && time - c.began >= 120) {
            phase(n, c, 3);
        } else if (c.phase == 3 && time - c.phaseBegan >= 60) {
            end(c, 12);
        }
        if (c.end < 0 && c.phase != 2 && time != c.phaseBegan && (time - c.phaseBegan) % 20 == 0) {
            say(n, c);
        }
    }

    void end(Cmd c, int how) {
        c.end = how;
        c.ended = time;
    }

    void phase(Nd n, Cmd c, int phase) {
        c.phase = phase;
        c.phaseBegan = time;
        say(n, c);
    }

    void say(Nd n, Cmd c) {
        if (n.address == 0) {
            return;
        }
        int ox = c.number % 65536;
        if (c.phase == 0) {
            queueUp(n.plug, make(5, FC, n.address, ox, 0, 0, c.disc));
        } else if (c.phase == 1) {
            queueUp(n.plug, make(7, c.discAddress, n.address, ox, 0, 0, n.number));
        } else if (c.phase == 2) {
            queueUp(n.plug, make(9, c.discAddress, n.address, ox, 0, 0, c.unit, c.write ? 1 : 0, c.block, c.count));
        } else {
            queueUp(n.plug, make(13, c.discAddress, n.address, ox, 0, 0));
        }
    }

    void hostTakes(Nd n, int[] f) {
        int kind = f[0];
        if (kind == 6 && from(f) == FC) {
            int address = f[14] << 16 | f[15] << 8 | f[16];
            for (Cmd c : cmds) {
                if (address != 0 && c.host == n.number && c.end < 0 && c.phase == 0 && c.disc == f[13]) {
                    c.discAddress = address;
                    Integer login = n.hostLogins.get(c.disc);
                    phase(n, c, login != null && login == address ? 2 : 1);
                }
            }
        }
        if (kind == 8 && f[6] >= 1 && f[6] <= nds.length) {
            n.hostLogins.put(f[6] - 1, from(f));
            for (Cmd c : cmds) {
                if (c.host == n.number && c.end < 0 && c.phase == 1 && c.discAddress == from(f)) {
                    phase(n, c, 2);
                }
            }
        }
        for (Cmd c : cmds) {
            if (c.host == n.number && c.end < 0 && c.number % 65536 == ox(f) && c.discAddress == from(f)) {
                answerFor(n, c, f);
            }
        }
    }

    void answerFor(Nd n, Cmd c, int[] f) {
        int kind = f[0];
        if (c.phase == 3 && kind == 14) {
            end(c, 12);
        } else if (c.phase == 2 && kind == 10 && c.write) {
            for (int i = 0; i < c.count; i++) {
                queueUp(n.plug, make(11, c.discAddress, n.address, ox(f), rx(f), i, eight(c.v + i)));
            }
        } else if (c.phase == 2 && kind == 11 && !c.write && f[11] < c.count) {
            c.got[f[11]] = eight(load(f));
        } else if (c.phase == 2 && kind == 12) {
            boolean all = true;
            for (int i = 0; i < c.count; i++) {
                all &= c.got[i] != null;
            }
            if (f[13] == 1) {
                end(c, 11);
                n.hostLogins.remove(c.disc);
            } else if (c.write || all) {
                end(c, 10);
            } else {
                phase(n, c, 3);
            }
        }
    }

    // ---- discs

    void discTakes(Nd n, int[] f) {
        int back = from(f);
        int ox = ox(f);
        if (f[0] == 7) {
            if (!n.discLogins.contains(back)) {
                n.discLogins.add(back);
                if (n.discLogins.size() > 8) {
                    n.discLogins.remove(0);
                }
            }
            queueUp(n.plug, make(8, back, n.address, ox, 0, 0));
        } else if (f[0] == 9) {
            discCommand(n, f);
        } else if (f[0] == 11) {
            for (Open o : new ArrayList<>(n.open)) {
                if (o.ox == ox && o.rx == rx(f) && o.from == back && f[11] < o.count) {
                    o.values[f[11]] = eight(load(f));
                    boolean all = true;
                    for (int i = 0; i < o.count; i++) {
                        all &= o.values[i] != null;
                    }
                    if (all) {
                        for (int i = 0; i < o.count; i++) {
                            n.blocks[o.unit][o.block + i] = o.values[i];
                        }
                        n.open.remove(o);
                        queueUp(n.plug, make(12, back, n.address, ox, o.rx, 0, 0));
                    }
                }
            }
        } else if (f[0] == 13) {
            n.open.removeIf(o -> o.ox == ox && o.from == back);
            queueUp(n.plug, make(14, back, n.address, ox, 0, 0));
        }
    }

    void discCommand(Nd n, int[] f) {
        int back = from(f);
        int ox = ox(f);
        int unit = f[13];
        boolean write = f[14] == 1;
        int block = f[15];
        int count = f[16];
        if (!n.discLogins.contains(back) || unit > 1 || count < 1 || count > 4 || block + count - 1 > 15
                || write && n.open.size() == 6) {
            queueUp(n.plug, make(12, back, n.address, ox, 0, 0, 1));
        } else if (write) {
            n.rx = (n.rx + 1) % 65536;
            Open o = new Open();
            o.ox = ox;
            o.rx = n.rx;
            o.from = back;
            o.unit = unit;
            o.block = block;
            o.count = count;
            o.since = time;
            n.open.add(o);
            queueUp(n.plug, make(10, back, n.address, ox, n.rx, 0, count));
        } else {
            for (int i = 0; i < count; i++) {
                queueUp(n.plug, make(11, back, n.address, ox, 0, i, eight(n.blocks[unit][block + i])));
            }
            queueUp(n.plug, make(12, back, n.address, ox, 0, 0, 0));
        }
    }

    // ---- the face

    boolean isNode(int node) {
        return node >= 0 && node < nds.length;
    }

    boolean isSwitch(int s) {
        return s >= 0 && s < sws.length;
    }

    boolean disc(int node) {
        if (!isNode(node) || nds[node].disc || nds[node].plug.other != null
                || cmds.stream().anyMatch(c -> c.host == node)) {
            return false;
        }
        nds[node].disc = true;
        return true;
    }

    Plug plug(int s, int p) {
        if (s >= 16) {
            return isNode(s - 16) && p == 0 ? nds[s - 16].plug : null;
        }
        return isSwitch(s) && p >= 0 && p <= 7 ? sws[s].plugs[p] : null;
    }

    int wire(int a, int p, int b, int q, int cost) {
        Plug one = plug(a, p);
        Plug two = plug(b, q);
        if (a >= 16 || one == null || two == null || a == b || one.other != null || two.other != null
                || cost < 1 || cost > 9 || wires.size() == 16) {
            return -1;
        }
        one.other = two;
        two.other = one;
        one.cost = cost;
        two.cost = cost;
        wires.add(new Plug[] {one, two});
        bringUp(wires.size() - 1);
        return wires.size() - 1;
    }

    void bringUp(int wire) {
        for (Plug plug : wires.get(wire)) {
            plug.up = true;
            plug.credits = room;
            plug.creditsToCome = 0;
            plug.lastCall = null;
        }
    }

    boolean cut(int wire) {
        if (wire < 0 || wire >= wires.size() || !wires.get(wire)[0].up) {
            return false;
        }
        for (Plug plug : wires.get(wire)) {
            plug.up = false;
            plug.credits = 0;
            plug.creditsToCome = 0;
            plug.onTheWay = null;
            plug.queue.clear();
            plug.buffers.clear();
            plug.neighbour = null;
            plug.given = null;
            plug.staying = null;
            if (plug.owner >= 16) {
                nds[plug.owner - 16].address = 0;
                nds[plug.owner - 16].loseLogins();
            }
        }
        return true;
    }

    boolean join(int wire) {
        if (wire < 0 || wire >= wires.size() || wires.get(wire)[0].up) {
            return false;
        }
        bringUp(wire);
        return true;
    }

    boolean zone(int zone, int node, boolean in) {
        if (zone < 0 || zone > 7 || !isNode(node)) {
            return false;
        }
        if (in) {
            zones.get(zone).add(node);
        } else {
            zones.get(zone).remove(node);
        }
        return true;
    }

    boolean domain(int s, int d) {
        if (!isSwitch(s) || d < 1 || d > 15 || sws[s].domain == d) {
            return false;
        }
        sws[s].domain = d;
        return true;
    }

    int[] wayFrame(int wire, int side) {
        return wire < 0 || wire >= wires.size() || side < 0 || side > 1 ? null : wires.get(wire)[side].onTheWay;
    }

    boolean flip(int wire, int side, int bit) {
        int[] f = wayFrame(wire, side);
        if (f == null || bit < 0 || bit / 8 >= f.length) {
            return false;
        }
        f[bit / 8] ^= 1 << bit % 8;
        return true;
    }

    int tick(int n) {
        if (n < 0 || n > 300) {
            return -1;
        }
        int arrived = 0;
        for (int i = 0; i < n; i++) {
            arrived += tickOnce();
        }
        return arrived;
    }

    int begin(int host, int disc, boolean write, int unit, int block, int count, long v) {
        if (!isNode(host) || nds[host].disc || !isNode(disc) || !nds[disc].disc || unit < 0 || unit > 1
                || block < 0 || block > 15 || count < 1 || count > 4 || block + count > 16 || cmds.size() == 300
                || cmds.stream().filter(c -> c.host == host && c.end < 0).count() == 4) {
            return -1;
        }
        Cmd c = new Cmd();
        c.number = cmds.size();
        c.host = host;
        c.disc = disc;
        c.write = write;
        c.unit = unit;
        c.block = block;
        c.count = count;
        c.v = v;
        c.began = time;
        cmds.add(c);
        phase(nds[host], c, 0);
        return c.number;
    }

    int status(int c) {
        return c < 0 || c >= cmds.size() ? -1 : cmds.get(c).end >= 0 ? cmds.get(c).end : cmds.get(c).phase;
    }

    long got(int c, int i) {
        if (c < 0 || c >= cmds.size() || i < 0 || i > 3 || cmds.get(c).got[i] == null) {
            return 0;
        }
        return cmds.get(c).got[i];
    }

    int when(int c, int what) {
        if (c < 0 || c >= cmds.size() || what < 0 || what > 2) {
            return -1;
        }
        Cmd one = cmds.get(c);
        return what == 0 ? one.began : what == 1 ? one.ended : one.phaseBegan;
    }

    long block(int node, int unit, int block) {
        if (!isNode(node) || !nds[node].disc || unit < 0 || unit > 1 || block < 0 || block > 15) {
            return Long.MIN_VALUE;
        }
        return nds[node].blocks[unit][block];
    }

    int way(int s, int domain) {
        if (!isSwitch(s) || domain < 1 || domain > 15) {
            return -1;
        }
        return sws[s].domain == domain && !isOff(sws[s], s) ? 8 : wayToDomain(sws[s], domain);
    }

    int record(int s, int r, int what) {
        Rec rec = isSwitch(s) ? sws[s].kept.get(r) : null;
        if (rec == null || what < 0 || what > 4) {
            return -1;
        }
        return new int[] {rec.issue, rec.domain, rec.neighbours.size(), rec.nodes.size(), rec.kept}[what];
    }

    int port(int s, int p, int what) {
        Plug plug = plug(s, p);
        if (plug == null || plug.other == null || what < 0 || what > 4) {
            return -1;
        }
        int who = s >= 16 ? plug.other.owner : plug.toNode() ? plug.other.owner - 16
            : plug.neighbour == null ? -1 : plug.neighbour;
        return new int[] {plug.credits, plug.buffers.size(), plug.queue.size(), who, plug.up ? 1 : 0}[what];
    }

    int address(int node) {
        return isNode(node) ? nds[node].address : -1;
    }

    long frame(int wire, int side, int i) {
        int[] f = wayFrame(wire, side);
        if (f == null || i < 0) {
            return 0;
        }
        long v = 0;
        for (long k = i; k < i + 8L; k++) {
            v = v << 8 | (k < f.length ? f[(int) k] : 0);
        }
        return v;
    }

    int count(int what) {
        switch (what) {
            case 0: return time;
            case 9: return wires.size();
            case 10: return cmds.size();
            default: return what >= 1 && what <= 8 ? counts[what] : -1;
        }
    }
}
