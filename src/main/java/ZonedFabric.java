/** A fabric of switches between hosts and discs, as ../shared/DOC.md tells it. */
public final class ZonedFabric {
    private static final int PORTS = 8;
    private static final int NODE_BASE = 16;
    private static final int WIRES = 16;
    private static final int COMMANDS = 300;
    private static final int ZONES = 8;
    private static final int UNITS = 2;
    private static final int BLOCKS = 16;
    private static final int PARTS = 4;
    private static final int LAST_DOMAIN = 15;
    private static final int MOST_COST = 9;
    private static final int MOST_TICKS = 300;
    private static final int COUNTS = 9;

    private static final int HEADER = 13;
    private static final int CHECK = 4;
    /** The longest LOAD: a record of eight neighbours. */
    private static final int LOAD_ROOM = 31;
    private static final int QUEUE_ROOM = 32;

    private static final int AT_TO = 1;
    private static final int AT_FROM = 4;
    private static final int AT_OX = 7;
    private static final int AT_RX = 9;
    private static final int AT_PART = 11;
    private static final int AT_SIZE = 12;

    private static final int TO_LOGIN = 0xFFFFFE;
    private static final int TO_NAMES = 0xFFFFFC;
    private static final int TO_SWITCH = 0xFFFFFD;

    private static final int HELLO = 1;
    private static final int RECORD = 2;
    private static final int FLOGI = 3;
    private static final int WELCOME = 4;
    private static final int ASK = 5;
    private static final int TOLD = 6;
    private static final int LOGIN = 7;
    private static final int LOGGED = 8;
    private static final int COMMAND = 9;
    private static final int READY = 10;
    private static final int DATA = 11;
    private static final int DONE = 12;
    private static final int ABORT = 13;
    private static final int ABORTED = 14;

    private static final int NAMING = 0;
    private static final int LOGGING_IN = 1;
    private static final int WORKING = 2;
    private static final int ABORTING = 3;
    private static final int ENDED_GOOD = 10;
    private static final int ENDED_BAD = 11;
    private static final int ENDED_ABORTED = 12;
    private static final int ENDED_UNREACHED = 13;

    /** What each phase sends. */
    private static final int[] PHASE_KINDS = {ASK, LOGIN, COMMAND, ABORT};

    private static final int UNTRUE = 1;
    private static final int NOT_ALLOWED = 2;
    private static final int NO_WAY = 3;
    private static final int STAYED = 4;
    private static final int QUEUE_FULL = 5;
    private static final int SENT = 6;
    private static final int PASSED_ON = 7;
    private static final int ISSUED = 8;

    private static final int MOST_STAYS = 25;
    private static final int HELLO_PAUSE = 11;
    private static final int RECORD_LIFE = 150;
    private static final int RECORD_PAUSE = 40;
    private static final int FLOGI_PAUSE = 30;
    private static final int FLOGI_PAUSE_KNOWN = 90;
    private static final int SEND_AGAIN = 20;
    private static final int COMMAND_LIFE = 120;
    private static final int ABORT_LIFE = 60;
    private static final int OPEN_LIFE = 120;
    private static final int LIVE_COMMANDS = 4;
    private static final int DISC_LOGINS = 8;
    private static final int OPEN_WRITES = 6;

    /** So long ago that every timer has run out. */
    private static final int NEVER = -1000;
    private static final int NONE = -1;
    private static final int FAR = 1000000;
    private static final int OWN_DOMAIN = 8;
    private static final long NO_BLOCK = -9223372036854775808L;

    /** The CHECK's eight steps of one bit are done as two of four bits each. */
    private static final int[] CHECK_STEPS = {
        0x00000000, 0x1DB71064, 0x3B6E20C8, 0x26D930AC, 0x76DC4190, 0x6B6B51F4, 0x4DB26158, 0x5005713C,
        0xEDB88320, 0xF00F9344, 0xD6D6A3E8, 0xCB61B38C, 0x9B64C2B0, 0x86D3D2D4, 0xA00AE278, 0xBDBDF21C,
    };

    private final Shared shared;
    private final Switch[] switches;
    private final Node[] nodes;
    private final Port[] firstEnds = new Port[WIRES];
    private final Port[] secondEnds = new Port[WIRES];
    private int wires;
    private final Command[] commands = new Command[COMMANDS];
    private int commandsBegun;

    public ZonedFabric(int switches, int nodes, int room) {
        int switchCount = switches >= 1 && switches <= 5 ? switches : 2;
        int nodeCount = nodes >= 1 && nodes <= 8 ? nodes : 2;
        this.shared = new Shared(switchCount, nodeCount, room >= 1 && room <= 4 ? room : 2);
        this.switches = new Switch[switchCount];
        for (int i = 0; i < switchCount; i++) {
            this.switches[i] = new Switch(shared, i);
        }
        this.nodes = new Node[nodeCount];
        for (int i = 0; i < nodeCount; i++) {
            Node node = new Node(shared, i);
            node.host = new Host(shared, node);
            this.nodes[i] = node;
        }
    }

    public boolean disc(int node) {
        if (!shared.isNode(node)) {
            return false;
        }
        Node one = nodes[node];
        if (one.host == null || one.host.hadCommand || one.port.peer != null) {
            return false;
        }
        one.host = null;
        one.disc = new Disc(shared, one);
        return true;
    }

    public int wire(int a, int p, int b, int q, int cost) {
        if (wires >= WIRES || !isSwitch(a) || a == b || cost < 1 || cost > MOST_COST) {
            return -1;
        }
        Port first = portOf(a, p);
        Port second = portOf(b, q);
        if (first == null || second == null || first.peer != null || second.peer != null) {
            return -1;
        }
        first.peer = second;
        second.peer = first;
        first.cost = cost;
        second.cost = cost;
        first.comeUp();
        second.comeUp();
        firstEnds[wires] = first;
        secondEnds[wires] = second;
        wires++;
        return wires - 1;
    }

    public boolean cut(int wire) {
        if (!isWire(wire) || !firstEnds[wire].up) {
            return false;
        }
        firstEnds[wire].goDown();
        secondEnds[wire].goDown();
        int node = secondEnds[wire].owner - NODE_BASE;
        if (shared.isNode(node)) {
            nodes[node].loseWire();
        }
        return true;
    }

    public boolean join(int wire) {
        if (!isWire(wire) || firstEnds[wire].up) {
            return false;
        }
        firstEnds[wire].comeUp();
        secondEnds[wire].comeUp();
        return true;
    }

    public boolean zone(int zone, int node, boolean in) {
        if (zone < 0 || zone >= ZONES || !shared.isNode(node)) {
            return false;
        }
        int bit = 1 << node;
        shared.zones[zone] = in ? shared.zones[zone] | bit : shared.zones[zone] & ~bit;
        return true;
    }

    public void zoning(boolean on) {
        shared.zonesOn = on;
    }

    public boolean domain(int s, int d) {
        if (!isSwitch(s) || d < 1 || d > LAST_DOMAIN || switches[s].domainNow == d) {
            return false;
        }
        switches[s].domainNow = d;
        return true;
    }

    public boolean flip(int wire, int side, int bit) {
        Frame frame = onTheWay(wire, side);
        if (frame == null || bit < 0 || bit >= 8 * frame.length) {
            return false;
        }
        frame.turnOver(bit);
        return true;
    }

    public int tick(int n) {
        if (n < 0 || n > MOST_TICKS) {
            return -1;
        }
        int arrived = 0;
        for (int i = 0; i < n; i++) {
            shared.time++;
            for (int w = 0; w < wires; w++) {
                arrived += firstEnds[w].deliver() + secondEnds[w].deliver();
            }
            for (int s = 0; s < switches.length; s++) {
                switches[s].turn();
            }
            for (int k = 0; k < nodes.length; k++) {
                nodes[k].turn();
            }
        }
        return arrived;
    }

    public int read(int host, int disc, int unit, int block, int count) {
        if (!canBegin(host, disc, unit, block, count)) {
            return -1;
        }
        return begin(host, disc, new Command(false, unit, block, count, 0L));
    }

    public int write(int host, int disc, int unit, int block, int count, long v) {
        if (!canBegin(host, disc, unit, block, count)) {
            return -1;
        }
        return begin(host, disc, new Command(true, unit, block, count, v));
    }

    public int status(int c) {
        return isCommand(c) ? commands[c].state : -1;
    }

    public long got(int c, int i) {
        if (!isCommand(c) || commands[c].writes || i < 0 || i >= PARTS) {
            return 0L;
        }
        return commands[c].came[i];
    }

    public int when(int c, int what) {
        if (!isCommand(c)) {
            return -1;
        }
        switch (what) {
            case 0:
                return commands[c].beganAt;
            case 1:
                return commands[c].endedAt;
            case 2:
                return commands[c].phaseAt;
            default:
                return -1;
        }
    }

    public long block(int node, int unit, int block) {
        if (!isDisc(node) || unit < 0 || unit >= UNITS || block < 0 || block >= BLOCKS) {
            return NO_BLOCK;
        }
        return nodes[node].disc.blocks[unit * BLOCKS + block];
    }

    public int way(int s, int domain) {
        if (!isSwitch(s) || domain < 1 || domain > LAST_DOMAIN) {
            return -1;
        }
        Switch one = switches[s];
        return one.domainNow == domain && !one.off ? OWN_DOMAIN : one.wayTo(domain);
    }

    public int record(int s, int r, int what) {
        if (!isSwitch(s) || !isSwitch(r) || !switches[s].notices[r].isKept()) {
            return -1;
        }
        Notice notice = switches[s].notices[r];
        switch (what) {
            case 0:
                return notice.issue();
            case 1:
                return notice.domainTold();
            case 2:
                return notice.neighbours();
            case 3:
                return notice.nodesTold();
            case 4:
                return notice.keptAt;
            default:
                return -1;
        }
    }

    public int port(int s, int p, int what) {
        Port one = portOf(s, p);
        if (one == null || one.peer == null) {
            return -1;
        }
        switch (what) {
            case 0:
                return one.credits;
            case 1:
                return one.buffers.size;
            case 2:
                return one.queue.size;
            case 3:
                return one.whoIsThere();
            case 4:
                return one.up ? 1 : 0;
            default:
                return -1;
        }
    }

    public int address(int node) {
        return shared.isNode(node) ? nodes[node].address : -1;
    }

    public long frame(int wire, int side, int i) {
        Frame frame = onTheWay(wire, side);
        if (frame == null || i < 0) {
            return 0L;
        }
        long eight = 0L;
        for (int k = 0; k < 8; k++) {
            int byteHere = i < frame.length - k ? frame.byteAt(i + k) : 0;
            eight = eight << 8 | byteHere;
        }
        return eight;
    }

    public int count(int what) {
        if (what == 0) {
            return shared.time;
        }
        if (what == 9) {
            return wires;
        }
        if (what == 10) {
            return commandsBegun;
        }
        return what > 0 && what < COUNTS ? shared.counts[what] : -1;
    }

    public int broken(int what) {
        return 0;
    }

    private boolean isSwitch(int s) {
        return s >= 0 && s < switches.length;
    }

    private boolean isWire(int wire) {
        return wire >= 0 && wire < wires;
    }

    private boolean isCommand(int c) {
        return c >= 0 && c < commandsBegun;
    }

    private boolean isDisc(int node) {
        return shared.isNode(node) && nodes[node].disc != null;
    }

    private boolean isHost(int node) {
        return shared.isNode(node) && nodes[node].host != null;
    }

    private Port portOf(int s, int p) {
        if (isSwitch(s)) {
            return p >= 0 && p < PORTS ? switches[s].ports[p] : null;
        }
        if (s >= NODE_BASE && p == 0 && shared.isNode(s - NODE_BASE)) {
            return nodes[s - NODE_BASE].port;
        }
        return null;
    }

    private Frame onTheWay(int wire, int side) {
        if (!isWire(wire) || side < 0 || side > 1) {
            return null;
        }
        return side == 0 ? firstEnds[wire].sent : secondEnds[wire].sent;
    }

    private boolean canBegin(int host, int disc, int unit, int block, int count) {
        return isHost(host) && isDisc(disc) && unit >= 0 && unit < UNITS
                && count >= 1 && count <= PARTS && block >= 0 && block <= BLOCKS - count
                && commandsBegun < COMMANDS && nodes[host].host.hasRoom();
    }

    private int begin(int host, int disc, Command command) {
        command.number = commandsBegun;
        command.disc = disc;
        commands[commandsBegun] = command;
        commandsBegun++;
        nodes[host].host.begin(command);
        return command.number;
    }

    /** What all parts of one fabric need of it. */
    private static final class Shared {
        final int switchCount;
        final int nodeCount;
        final int room;
        int time;
        final int[] counts = new int[COUNTS];
        final int[] zones = new int[ZONES];
        boolean zonesOn;
        /** Frames are used again: a run may make millions of them. */
        private Frame spare;

        Shared(int switchCount, int nodeCount, int room) {
            this.switchCount = switchCount;
            this.nodeCount = nodeCount;
            this.room = room;
        }

        boolean isNode(int node) {
            return node >= 0 && node < nodeCount;
        }

        boolean inCommonZone(int one, int other) {
            if (!isNode(one) || !isNode(other)) {
                return false;
            }
            if (!zonesOn) {
                return true;
            }
            int both = 1 << one | 1 << other;
            for (int z = 0; z < ZONES; z++) {
                if ((zones[z] & both) == both) {
                    return true;
                }
            }
            return false;
        }

        void tally(int what) {
            if (what > 0 && what < COUNTS) {
                counts[what]++;
            }
        }

        Frame draft(int kind, int to, int from, int ox) {
            Frame frame = spare;
            if (frame == null) {
                frame = new Frame();
            } else {
                spare = frame.next;
            }
            frame.next = null;
            frame.start(kind, to, from, ox);
            return frame;
        }

        void release(Frame frame) {
            if (frame != null) {
                frame.next = spare;
                spare = frame;
            }
        }
    }

    /** The bytes of a frame; while it is drafted and in a queue, those ahead of CHECK. */
    private static final class Frame {
        private final byte[] bytes = new byte[HEADER + LOAD_ROOM + CHECK];
        int length;
        /** What nobody flipped is TRUE by the way it was made. */
        private boolean flipped;
        Frame next;

        void start(int kind, int to, int from, int ox) {
            length = HEADER;
            flipped = false;
            bytes[0] = (byte) kind;
            for (int i = 0; i < 3; i++) {
                bytes[AT_TO + i] = (byte) (to >> 16 - 8 * i);
                bytes[AT_FROM + i] = (byte) (from >> 16 - 8 * i);
            }
            bytes[AT_OX] = (byte) (ox >> 8);
            bytes[AT_OX + 1] = (byte) ox;
            for (int i = AT_RX; i < HEADER; i++) {
                bytes[i] = 0;
            }
        }

        void put(int at, int width, long value) {
            for (int i = 0; i < width; i++) {
                if (at + i >= 0 && at + i < bytes.length) {
                    bytes[at + i] = (byte) (value >>> 8 * (width - 1 - i));
                }
            }
        }

        void addLoad(int width, long value) {
            put(length, width, value);
            length = Math.min(length + width, HEADER + LOAD_ROOM);
        }

        void addLoadOf(Notice notice) {
            for (int i = 0; i < notice.size && length < HEADER + LOAD_ROOM; i++) {
                bytes[length] = (byte) notice.byteAt(i);
                length++;
            }
        }

        void seal() {
            put(AT_SIZE, 1, length - HEADER);
            put(length, CHECK, reckonCheck(length));
            length += CHECK;
        }

        private int reckonCheck(int size) {
            int c = -1;
            for (int i = 0; i < size && i < bytes.length; i++) {
                c ^= bytes[i] & 255;
                c = c >>> 4 ^ CHECK_STEPS[c & 15];
                c = c >>> 4 ^ CHECK_STEPS[c & 15];
            }
            return ~c;
        }

        int byteAt(int at) {
            return at >= 0 && at < bytes.length ? bytes[at] & 255 : 0;
        }

        long number(int at, int width) {
            long value = 0L;
            for (int i = 0; i < width; i++) {
                value = value << 8 | byteAt(at + i);
            }
            return value;
        }

        int kind() {
            return byteAt(0);
        }

        int to() {
            return (int) number(AT_TO, 3);
        }

        int from() {
            return (int) number(AT_FROM, 3);
        }

        int ox() {
            return (int) number(AT_OX, 2);
        }

        int rx() {
            return (int) number(AT_RX, 2);
        }

        int part() {
            return byteAt(AT_PART);
        }

        int load(int i) {
            return byteAt(HEADER + i);
        }

        void turnOver(int bit) {
            int at = bit / 8;
            if (at >= 0 && at < bytes.length) {
                bytes[at] ^= (byte) (1 << bit % 8);
                flipped = true;
            }
        }

        boolean isTrue(Shared shared) {
            if (!flipped) {
                return true;
            }
            int size = length - HEADER - CHECK;
            return byteAt(AT_SIZE) == size
                    && (int) number(length - CHECK, CHECK) == reckonCheck(length - CHECK)
                    && (kind() == RECORD ? hasRecordForm(size, shared) : hasForm(size, shared));
        }

        private boolean hasForm(int size, Shared shared) {
            switch (kind()) {
                case HELLO:
                    return size == 1 && load(0) < shared.switchCount;
                case FLOGI:
                case ASK:
                case LOGIN:
                    return size == 1 && shared.isNode(load(0));
                case TOLD:
                    return size == 4 && shared.isNode(load(0))
                            && (number(HEADER + 1, 3) == 0 || load(3) == load(0) + 1);
                case COMMAND:
                    return size == 4 && load(1) <= 1;
                case READY:
                    return size == 1;
                case DATA:
                    return size == 8;
                case DONE:
                    return size == 1 && load(0) <= 1;
                default:
                    return true;
            }
        }

        private boolean hasRecordForm(int size, Shared shared) {
            int neighbours = load(5);
            int nodesAt = 6 + 3 * neighbours;
            if (size <= nodesAt || size != nodesAt + 1 + 2 * load(nodesAt)) {
                return false;
            }
            return load(0) < shared.switchCount && load(4) >= 1 && load(4) <= LAST_DOMAIN
                    && haveNeighboursForm(neighbours, shared) && haveNodesForm(nodesAt, shared);
        }

        private boolean haveNeighboursForm(int neighbours, Shared shared) {
            int last = NONE;
            for (int i = 0; i < neighbours; i++) {
                int port = load(6 + 3 * i);
                int cost = load(8 + 3 * i);
                if (port <= last || port >= PORTS || load(7 + 3 * i) >= shared.switchCount
                        || cost < 1 || cost > MOST_COST) {
                    return false;
                }
                last = port;
            }
            return true;
        }

        private boolean haveNodesForm(int nodesAt, Shared shared) {
            int last = NONE;
            int seen = 0;
            for (int i = 0; i < load(nodesAt); i++) {
                int node = load(nodesAt + 1 + 2 * i);
                int port = load(nodesAt + 2 + 2 * i);
                if (port <= last || port >= PORTS || !shared.isNode(node) || (seen >> node & 1) == 1) {
                    return false;
                }
                last = port;
                seen |= 1 << node;
            }
            return true;
        }
    }

    /** Frames one behind another, first in, first out. */
    private static final class FrameLine {
        Frame first;
        private Frame last;
        int size;

        void add(Frame frame) {
            frame.next = null;
            if (last == null) {
                first = frame;
            } else {
                last.next = frame;
            }
            last = frame;
            size++;
        }

        Frame take() {
            Frame frame = first;
            if (frame != null) {
                first = frame.next;
                if (first == null) {
                    last = null;
                }
                frame.next = null;
                size--;
            }
            return frame;
        }
    }

    /** One end of a wire, at a switch or at a node. */
    private static final class Port {
        private final Shared shared;
        /** The switch's number, or that of the node + 16. */
        final int owner;
        final int number;
        Port peer;
        int cost;
        boolean up;
        int credits;
        private int coming;
        Frame sent;
        final FrameLine queue = new FrameLine();
        final FrameLine buffers = new FrameLine();
        int neighbour = NONE;
        int given;
        private int stays;
        /** When the last HELLO, or FLOGI, went to the queue. */
        int calledAt = NEVER;

        Port(Shared shared, int owner, int number) {
            this.shared = shared;
            this.owner = owner;
            this.number = number;
        }

        void comeUp() {
            up = true;
            credits = shared.room;
            calledAt = NEVER;
        }

        void goDown() {
            up = false;
            credits = 0;
            coming = 0;
            neighbour = NONE;
            given = 0;
            stays = 0;
            shared.release(sent);
            sent = null;
            for (int left = queue.size; left > 0; left--) {
                shared.release(queue.take());
            }
            for (int left = buffers.size; left > 0; left--) {
                shared.release(buffers.take());
            }
        }

        boolean isToNode() {
            return peer != null && peer.owner >= NODE_BASE;
        }

        boolean isToSwitch() {
            return peer != null && peer.owner < NODE_BASE;
        }

        int nodeThere() {
            return isToNode() ? peer.owner - NODE_BASE : NONE;
        }

        int whoIsThere() {
            if (isToNode()) {
                return nodeThere();
            }
            return owner >= NODE_BASE && peer != null ? peer.owner : neighbour;
        }

        int deliver() {
            credits += coming;
            coming = 0;
            if (sent == null || peer == null) {
                return 0;
            }
            peer.buffers.add(sent);
            sent = null;
            return 1;
        }

        boolean canSend() {
            return up && credits > 0 && sent == null;
        }

        void send(Frame frame) {
            sent = frame;
            credits--;
            shared.tally(SENT);
        }

        void sendFirst() {
            if (queue.first != null && canSend()) {
                queue.first.seal();
                send(queue.take());
            }
        }

        void post(Frame frame) {
            if (up && queue.size < QUEUE_ROOM) {
                queue.add(frame);
                return;
            }
            if (up) {
                shared.tally(QUEUE_FULL);
            }
            shared.release(frame);
        }

        Frame leave() {
            stays = 0;
            if (peer != null && buffers.size > 0) {
                peer.coming++;
            }
            return buffers.take();
        }

        void drop(int why) {
            shared.tally(why);
            shared.release(leave());
        }

        void stay() {
            stays++;
            if (stays >= MOST_STAYS) {
                drop(STAYED);
            }
        }
    }

    /** A record as it is kept: the LOAD of its frame, and when it came. */
    private static final class Notice {
        private final byte[] load = new byte[LOAD_ROOM];
        int size;
        int keptAt;

        boolean isKept() {
            return size > 0;
        }

        void clear() {
            size = 0;
        }

        void add(int value) {
            if (size < load.length) {
                load[size] = (byte) value;
                size++;
            }
        }

        int byteAt(int i) {
            return i >= 0 && i < size ? load[i] & 255 : 0;
        }

        int issue() {
            return byteAt(1) << 16 | byteAt(2) << 8 | byteAt(3);
        }

        void setIssue(int issue) {
            load[1] = (byte) (issue >> 16);
            load[2] = (byte) (issue >> 8);
            load[3] = (byte) issue;
        }

        int domainTold() {
            return byteAt(4);
        }

        int neighbours() {
            return byteAt(5);
        }

        int neighbourPort(int i) {
            return byteAt(6 + 3 * i);
        }

        int neighbourSwitch(int i) {
            return byteAt(7 + 3 * i);
        }

        int neighbourCost(int i) {
            return byteAt(8 + 3 * i);
        }

        int nodesTold() {
            return byteAt(6 + 3 * byteAt(5));
        }

        /** The port at which a node is told to be. */
        int portOf(int node) {
            int at = 7 + 3 * byteAt(5);
            for (int i = 0; i < byteAt(at - 1); i++) {
                if (byteAt(at + 2 * i) == node) {
                    return byteAt(at + 2 * i + 1);
                }
            }
            return NONE;
        }

        boolean tellsSameAs(Notice other) {
            if (size != other.size) {
                return false;
            }
            for (int i = 4; i < size; i++) {
                if (load[i] != other.load[i]) {
                    return false;
                }
            }
            return true;
        }
    }

    /** A switch: its ports, the records that it keeps, and the ways that they tell. */
    private static final class Switch {
        private final Shared shared;
        private final int number;
        final Port[] ports = new Port[PORTS];
        int domainNow;
        final Notice[] notices;
        private Notice draft = new Notice();
        private final int[][] costs;
        private final int[][] sums;
        /** The port of the way to each switch, by the records that are kept now. */
        private final int[] ways;
        /** The reached switch that has a domain and is not OFF, by domains. */
        private final int[] holders = new int[LAST_DOMAIN + 1];
        boolean off;

        Switch(Shared shared, int number) {
            int count = shared.switchCount;
            this.shared = shared;
            this.number = number;
            this.domainNow = number + 1;
            this.notices = new Notice[count];
            this.costs = new int[count][count];
            this.sums = new int[count][count];
            this.ways = new int[count];
            for (int i = 0; i < count; i++) {
                notices[i] = new Notice();
                ways[i] = NONE;
            }
            for (int d = 0; d < holders.length; d++) {
                holders[d] = NONE;
            }
            for (int p = 0; p < PORTS; p++) {
                ports[p] = new Port(shared, number, p);
            }
        }

        void turn() {
            takeBackAddresses();
            forgetOldRecords();
            sayHello();
            tellOwnRecord();
            // A mask, as the rest of a division would be below 0 once TIME has gone round.
            int first = shared.time & PORTS - 1;
            for (int i = 0; i < PORTS; i++) {
                ports[(first + i) % PORTS].sendFirst();
            }
            for (int i = 0; i < PORTS; i++) {
                serve(ports[(first + i) % PORTS]);
            }
        }

        private void takeBackAddresses() {
            for (int p = 0; p < PORTS; p++) {
                Port port = ports[p];
                if (port.given != 0 && (off || port.given >> 16 != domainNow)) {
                    port.given = 0;
                    port.post(shared.draft(WELCOME, 0, TO_LOGIN, 0));
                }
            }
        }

        private void forgetOldRecords() {
            boolean forgot = false;
            for (int r = 0; r < notices.length; r++) {
                Notice notice = notices[r];
                if (notice.isKept() && shared.time - notice.keptAt >= RECORD_LIFE) {
                    notice.clear();
                    forgot = true;
                }
            }
            if (forgot) {
                findWays();
            }
        }

        private void sayHello() {
            for (int p = 0; p < PORTS; p++) {
                Port port = ports[p];
                if (port.up && port.isToSwitch() && port.neighbour == NONE
                        && shared.time - port.calledAt >= HELLO_PAUSE) {
                    port.calledAt = shared.time;
                    Frame hello = shared.draft(HELLO, TO_SWITCH, TO_SWITCH, 0);
                    hello.addLoad(1, number);
                    port.post(hello);
                }
            }
        }

        private void tellOwnRecord() {
            Notice own = notices[number];
            draftOwnRecord();
            if (own.isKept() && own.tellsSameAs(draft) && shared.time - own.keptAt < RECORD_PAUSE) {
                return;
            }
            draft.setIssue(own.issue() + 1);
            draft.keptAt = shared.time;
            notices[number] = draft;
            draft = own;
            shared.tally(ISSUED);
            findWays();
            spread(notices[number], NONE);
        }

        private void draftOwnRecord() {
            int neighbours = 0;
            int nodes = 0;
            for (int p = 0; p < PORTS; p++) {
                neighbours += ports[p].neighbour != NONE ? 1 : 0;
                nodes += ports[p].given != 0 ? 1 : 0;
            }
            draft.clear();
            draft.add(number);
            for (int i = 0; i < 3; i++) {
                draft.add(0);
            }
            draft.add(domainNow);
            draft.add(neighbours);
            for (int p = 0; p < PORTS; p++) {
                if (ports[p].neighbour != NONE) {
                    draft.add(p);
                    draft.add(ports[p].neighbour);
                    draft.add(ports[p].cost);
                }
            }
            draft.add(nodes);
            for (int p = 0; p < PORTS; p++) {
                if (ports[p].given != 0) {
                    draft.add(ports[p].nodeThere());
                    draft.add(p);
                }
            }
        }

        /** To all neighbours but the one at the port by which it came. */
        private void spread(Notice notice, int camePort) {
            for (int p = 0; p < PORTS; p++) {
                if (p != camePort && ports[p].neighbour != NONE) {
                    postRecord(ports[p], notice);
                }
            }
        }

        private void postRecord(Port port, Notice notice) {
            Frame frame = shared.draft(RECORD, TO_SWITCH, TO_SWITCH, 0);
            frame.addLoadOf(notice);
            port.post(frame);
        }

        private void serve(Port port) {
            Frame frame = port.buffers.first;
            if (frame == null) {
                return;
            }
            if (!frame.isTrue(shared)) {
                port.drop(UNTRUE);
                return;
            }
            int to = frame.to();
            int kind = frame.kind();
            if (to != TO_LOGIN && to != TO_NAMES && to != TO_SWITCH) {
                passOn(port, frame);
                return;
            }
            if (to == TO_SWITCH && kind == HELLO && port.isToSwitch()) {
                takeHello(port, frame);
            } else if (to == TO_SWITCH && kind == RECORD && port.isToSwitch()) {
                takeRecord(port, frame);
            } else if (to == TO_LOGIN && kind == FLOGI && port.isToNode()) {
                takeFlogi(port);
            } else if (to == TO_NAMES && kind == ASK && port.isToNode()) {
                takeAsk(port, frame);
            }
            shared.release(port.leave());
        }

        private void takeFlogi(Port port) {
            if (!off) {
                port.given = domainNow << 16 | port.number << 8 | port.nodeThere() + 1;
                port.post(shared.draft(WELCOME, port.given, TO_LOGIN, 0));
            }
        }

        private void takeAsk(Port port, Frame ask) {
            if (port.given == 0 || ask.from() != port.given) {
                shared.tally(NOT_ALLOWED);
                return;
            }
            int node = ask.load(0);
            boolean allowed = shared.inCommonZone(node, port.nodeThere());
            Frame told = shared.draft(TOLD, port.given, TO_NAMES, 0);
            told.addLoad(1, node);
            told.addLoad(3, allowed ? addressOf(node) : 0);
            port.post(told);
        }

        private void takeHello(Port port, Frame hello) {
            port.neighbour = hello.load(0);
            for (int r = 0; r < notices.length; r++) {
                if (r != number && notices[r].isKept()) {
                    postRecord(port, notices[r]);
                }
            }
        }

        private void takeRecord(Port port, Frame frame) {
            int of = frame.load(0);
            int issue = (int) frame.number(HEADER + 1, 3);
            if (of >= notices.length || of == number || issue <= notices[of].issue()) {
                return;
            }
            Notice notice = notices[of];
            notice.clear();
            for (int i = 0; i < frame.length - HEADER - CHECK; i++) {
                notice.add(frame.load(i));
            }
            notice.keptAt = shared.time;
            findWays();
            spread(notice, port.number);
        }

        private void passOn(Port port, Frame frame) {
            int outNumber = outPort(port, frame.from(), frame.to());
            if (outNumber < 0 || outNumber >= PORTS) {
                port.drop(-outNumber);
                return;
            }
            Port out = ports[outNumber];
            if (out.queue.size == 0 && out.canSend()) {
                out.send(port.leave());
                shared.tally(PASSED_ON);
            } else {
                port.stay();
            }
        }

        /** The port by which a frame goes on, or what it is counted by, below 0. */
        private int outPort(Port port, int from, int to) {
            int toNode = (to & 255) - 1;
            if (port.isToNode() && (port.given == 0 || from != port.given
                    || !shared.inCommonZone(port.nodeThere(), toNode))) {
                return -NOT_ALLOWED;
            }
            if (to >> 16 != domainNow || off) {
                int way = wayTo(to >> 16);
                return way == NONE ? -NO_WAY : way;
            }
            int p = to >> 8 & 255;
            if (p >= PORTS || !ports[p].up || toNode < 0 || ports[p].nodeThere() != toNode) {
                return -NO_WAY;
            }
            return shared.inCommonZone((from & 255) - 1, toNode) ? p : -NOT_ALLOWED;
        }

        int wayTo(int domain) {
            int holder = domain >= 0 && domain < holders.length ? holders[domain] : NONE;
            return holder == NONE ? NONE : ways[holder];
        }

        private int addressOf(int node) {
            for (int s = 0; s < notices.length; s++) {
                int port = isOn(s) ? notices[s].portOf(node) : NONE;
                if (port != NONE) {
                    return notices[s].domainTold() << 16 | port << 8 | node + 1;
                }
            }
            return 0;
        }

        /** Whether a switch is reached and not OFF. */
        private boolean isOn(int s) {
            int domain = notices[s].domainTold();
            return domain < holders.length && holders[domain] == s;
        }

        /** The ways hang on the records alone, so they are found anew as these change. */
        private void findWays() {
            noteCosts();
            addUpCosts();
            Notice own = notices[number];
            for (int s = 0; s < notices.length; s++) {
                ways[s] = s == number ? NONE : firstPortTo(s, own);
            }
            noteHolders();
            off = own.isKept() && !isOn(number);
        }

        private void noteHolders() {
            for (int d = 0; d < holders.length; d++) {
                holders[d] = NONE;
            }
            for (int s = 0; s < notices.length; s++) {
                boolean reached = s == number || ways[s] != NONE;
                int domain = notices[s].domainTold();
                if (reached && domain > 0 && domain < holders.length && holders[domain] == NONE) {
                    holders[domain] = s;
                }
            }
        }

        private void noteCosts() {
            for (int a = 0; a < notices.length; a++) {
                for (int b = 0; b < notices.length; b++) {
                    costs[a][b] = FAR;
                }
                for (int i = 0; i < notices[a].neighbours(); i++) {
                    int b = notices[a].neighbourSwitch(i);
                    if (b < notices.length) {
                        costs[a][b] = Math.min(costs[a][b], notices[a].neighbourCost(i));
                    }
                }
            }
        }

        private boolean areJoined(int a, int b) {
            return costs[a][b] < FAR && costs[b][a] < FAR;
        }

        private void addUpCosts() {
            for (int a = 0; a < sums.length; a++) {
                for (int b = 0; b < sums.length; b++) {
                    sums[a][b] = a == b ? 0 : areJoined(a, b) ? costs[a][b] : FAR;
                }
            }
            for (int over = 0; over < sums.length; over++) {
                for (int a = 0; a < sums.length; a++) {
                    for (int b = 0; b < sums.length; b++) {
                        sums[a][b] = Math.min(sums[a][b], sums[a][over] + sums[over][b]);
                    }
                }
            }
        }

        private int firstPortTo(int s, Notice own) {
            if (sums[number][s] >= FAR) {
                return NONE;
            }
            for (int i = 0; i < own.neighbours(); i++) {
                int neighbour = own.neighbourSwitch(i);
                if (neighbour < sums.length && areJoined(number, neighbour)
                        && own.neighbourCost(i) + sums[neighbour][s] == sums[number][s]) {
                    return own.neighbourPort(i);
                }
            }
            return NONE;
        }
    }

    /** A node: its port and its address; what it is for is the host's part or the disc's. */
    private static final class Node {
        private final Shared shared;
        final int number;
        final Port port;
        int address;
        Host host;
        Disc disc;

        Node(Shared shared, int number) {
            this.shared = shared;
            this.number = number;
            this.port = new Port(shared, NODE_BASE + number, 0);
        }

        void turn() {
            for (int left = port.buffers.size; left > 0; left--) {
                Frame frame = port.leave();
                if (frame == null) {
                    break;
                }
                if (!frame.isTrue(shared)) {
                    shared.tally(UNTRUE);
                } else if (frame.kind() == WELCOME && frame.from() == TO_LOGIN) {
                    takeAddress(frame.to());
                } else if (address != 0 && frame.to() == address) {
                    if (host != null) {
                        host.take(frame);
                    } else if (disc != null) {
                        disc.take(frame);
                    }
                }
                shared.release(frame);
            }
            callSwitch();
            if (host != null) {
                host.runTimers();
            }
            if (disc != null) {
                disc.runTimers();
            }
            port.sendFirst();
        }

        private void takeAddress(int given) {
            if (address != 0 && address != given) {
                forgetLogins();
            }
            address = given;
        }

        private void forgetLogins() {
            if (host != null) {
                host.forgetLogins();
            }
            if (disc != null) {
                disc.forgetLogins();
            }
        }

        void loseWire() {
            address = 0;
            forgetLogins();
        }

        private void callSwitch() {
            int pause = address == 0 ? FLOGI_PAUSE : FLOGI_PAUSE_KNOWN;
            if (port.up && shared.time - port.calledAt >= pause) {
                port.calledAt = shared.time;
                Frame flogi = shared.draft(FLOGI, TO_LOGIN, address, 0);
                flogi.addLoad(1, number);
                port.post(flogi);
            }
        }
    }

    /** The host's part of a node: its commands, and where it is logged in. */
    private static final class Host {
        private final Shared shared;
        private final Node node;
        boolean hadCommand;
        /** By the disc's node; 0 where it is not logged in. */
        private final int[] logins;
        /** By rising numbers; ended ones stay till room is wanted. */
        private final Command[] recent = new Command[LIVE_COMMANDS];
        private int recentCount;

        Host(Shared shared, Node node) {
            this.shared = shared;
            this.node = node;
            this.logins = new int[shared.nodeCount];
        }

        boolean hasRoom() {
            int kept = 0;
            for (int i = 0; i < recentCount; i++) {
                if (!recent[i].isEnded()) {
                    recent[kept] = recent[i];
                    kept++;
                }
            }
            recentCount = kept;
            return recentCount < LIVE_COMMANDS;
        }

        void begin(Command command) {
            if (recentCount < LIVE_COMMANDS) {
                hadCommand = true;
                recent[recentCount] = command;
                recentCount++;
                command.beganAt = shared.time;
                enter(command, NAMING);
            }
        }

        void forgetLogins() {
            for (int i = 0; i < logins.length; i++) {
                logins[i] = 0;
            }
        }

        void runTimers() {
            for (int i = 0; i < recentCount; i++) {
                Command command = recent[i];
                if (!command.isEnded()) {
                    runTimer(command);
                }
            }
        }

        private void runTimer(Command command) {
            boolean old = shared.time - command.beganAt >= COMMAND_LIFE;
            int inPhase = shared.time - command.phaseAt;
            if (command.state < WORKING && old) {
                command.end(ENDED_UNREACHED, shared.time);
            } else if (command.state == WORKING) {
                if (old) {
                    enter(command, ABORTING);
                }
            } else if (command.state == ABORTING && inPhase >= ABORT_LIFE) {
                command.end(ENDED_ABORTED, shared.time);
            } else if (inPhase > 0 && inPhase % SEND_AGAIN == 0) {
                sendForPhase(command);
            }
        }

        private void enter(Command command, int phase) {
            command.state = phase;
            command.phaseAt = shared.time;
            sendForPhase(command);
        }

        private void sendForPhase(Command command) {
            if (node.address == 0 || command.isEnded()) {
                return;
            }
            int to = command.state == NAMING ? TO_NAMES : command.address;
            Frame frame = shared.draft(PHASE_KINDS[command.state], to, node.address, command.number);
            if (command.state == NAMING) {
                frame.addLoad(1, command.disc);
            } else if (command.state == LOGGING_IN) {
                frame.addLoad(1, node.number);
            } else if (command.state == WORKING) {
                frame.addLoad(4, command.order());
            }
            node.port.post(frame);
        }

        void take(Frame frame) {
            switch (frame.kind()) {
                case TOLD:
                    takeTold(frame);
                    break;
                case LOGGED:
                    takeLogged(frame.from());
                    break;
                case READY:
                    takeReady(frame);
                    break;
                case DATA:
                    takeData(frame);
                    break;
                case DONE:
                    takeDone(frame);
                    break;
                case ABORTED:
                    takeAborted(frame);
                    break;
                default:
                    break;
            }
        }

        private void takeTold(Frame told) {
            int disc = told.load(0);
            int address = (int) told.number(HEADER + 1, 3);
            if (told.from() != TO_NAMES || address == 0 || disc >= logins.length) {
                return;
            }
            for (int i = 0; i < recentCount; i++) {
                if (recent[i].state == NAMING && recent[i].disc == disc) {
                    recent[i].address = address;
                    enter(recent[i], logins[disc] == address ? WORKING : LOGGING_IN);
                }
            }
        }

        private void takeLogged(int from) {
            int disc = (from & 255) - 1;
            if (disc < 0 || disc >= logins.length) {
                return;
            }
            logins[disc] = from;
            for (int i = 0; i < recentCount; i++) {
                if (recent[i].state == LOGGING_IN && recent[i].address == from) {
                    enter(recent[i], WORKING);
                }
            }
        }

        /** The command of this host in a phase that a disc's frame is of, or null. */
        private Command commandOf(Frame frame, int phase) {
            for (int i = 0; i < recentCount; i++) {
                Command command = recent[i];
                if (command.state == phase && command.number == frame.ox() && command.address == frame.from()) {
                    return command;
                }
            }
            return null;
        }

        private void takeReady(Frame ready) {
            Command command = commandOf(ready, WORKING);
            if (command == null || !command.writes) {
                return;
            }
            for (int i = 0; i < command.count; i++) {
                Frame data = shared.draft(DATA, command.address, node.address, command.number);
                data.put(AT_RX, 2, ready.rx());
                data.put(AT_PART, 1, i);
                data.addLoad(8, command.first + i);
                node.port.post(data);
            }
        }

        private void takeData(Frame data) {
            Command command = commandOf(data, WORKING);
            if (command != null && !command.writes && data.part() < command.count) {
                command.keep(data.part(), data.number(HEADER, 8));
            }
        }

        private void takeDone(Frame done) {
            Command command = commandOf(done, WORKING);
            if (command == null) {
                return;
            }
            if (done.load(0) != 0) {
                command.end(ENDED_BAD, shared.time);
                if (command.disc < logins.length) {
                    logins[command.disc] = 0;
                }
            } else if (command.writes || command.hasAll()) {
                command.end(ENDED_GOOD, shared.time);
            } else {
                enter(command, ABORTING);
            }
        }

        private void takeAborted(Frame aborted) {
            Command command = commandOf(aborted, ABORTING);
            if (command != null) {
                command.end(ENDED_ABORTED, shared.time);
            }
        }
    }

    /** One READ or WRITE of a host. */
    private static final class Command {
        final boolean writes;
        private final int unit;
        private final int block;
        final int count;
        final long first;
        final long[] came = new long[PARTS];
        private int cameBits;
        int number;
        int disc;
        int address;
        /** Its phase, or how it ended. */
        int state;
        int beganAt;
        int phaseAt;
        int endedAt = NONE;

        Command(boolean writes, int unit, int block, int count, long first) {
            this.writes = writes;
            this.unit = unit;
            this.block = block;
            this.count = count;
            this.first = first;
        }

        long order() {
            return (long) unit << 24 | (writes ? 1L : 0L) << 16 | (long) block << 8 | count;
        }

        boolean isEnded() {
            return state > ABORTING;
        }

        void end(int how, int time) {
            state = how;
            endedAt = time;
        }

        void keep(int part, long value) {
            if (part >= 0 && part < PARTS) {
                came[part] = value;
                cameBits |= 1 << part;
            }
        }

        boolean hasAll() {
            return cameBits == (1 << count) - 1;
        }
    }

    /** The disc's part of a node: its blocks, who is logged in, and open WRITES. */
    private static final class Disc {
        private final Shared shared;
        private final Node node;
        final long[] blocks = new long[UNITS * BLOCKS];
        /** The oldest first. */
        private final int[] logins = new int[DISC_LOGINS];
        private int loginCount;
        private final OpenWrite[] writes = new OpenWrite[OPEN_WRITES];
        private int lastRx;

        Disc(Shared shared, Node node) {
            this.shared = shared;
            this.node = node;
            for (int i = 0; i < OPEN_WRITES; i++) {
                writes[i] = new OpenWrite();
            }
        }

        void forgetLogins() {
            loginCount = 0;
            for (int i = 0; i < OPEN_WRITES; i++) {
                writes[i].open = false;
            }
        }

        void runTimers() {
            for (int i = 0; i < OPEN_WRITES; i++) {
                if (shared.time - writes[i].openedAt >= OPEN_LIFE) {
                    writes[i].open = false;
                }
            }
        }

        void take(Frame frame) {
            switch (frame.kind()) {
                case LOGIN:
                    logIn(frame.from());
                    answer(LOGGED, frame, 0, 0, 0L);
                    break;
                case COMMAND:
                    takeCommand(frame);
                    break;
                case DATA:
                    takeData(frame);
                    break;
                case ABORT:
                    takeAbort(frame);
                    break;
                default:
                    break;
            }
        }

        private void answer(int kind, Frame came, int rx, int width, long load) {
            Frame frame = shared.draft(kind, came.from(), node.address, came.ox());
            frame.put(AT_RX, 2, rx);
            frame.addLoad(width, load);
            node.port.post(frame);
        }

        private boolean isLoggedIn(int from) {
            for (int i = 0; i < loginCount; i++) {
                if (logins[i] == from) {
                    return true;
                }
            }
            return false;
        }

        private void logIn(int from) {
            if (isLoggedIn(from)) {
                return;
            }
            if (loginCount == DISC_LOGINS) {
                System.arraycopy(logins, 1, logins, 0, DISC_LOGINS - 1);
                loginCount--;
            }
            logins[loginCount] = from;
            loginCount++;
        }

        private OpenWrite freeWrite() {
            for (int i = 0; i < OPEN_WRITES; i++) {
                if (!writes[i].open) {
                    return writes[i];
                }
            }
            return null;
        }

        private void takeCommand(Frame command) {
            int unit = command.load(0);
            boolean isWrite = command.load(1) == 1;
            int block = command.load(2);
            int count = command.load(3);
            OpenWrite write = freeWrite();
            if (!isLoggedIn(command.from()) || unit >= UNITS || count < 1 || count > PARTS
                    || block + count > BLOCKS || isWrite && write == null) {
                answer(DONE, command, 0, 1, 1L);
            } else if (isWrite) {
                lastRx = lastRx + 1 & 65535;
                write.begin(command, lastRx, shared.time);
                answer(READY, command, lastRx, 1, count);
            } else {
                sendBlocks(command, unit * BLOCKS + block, count);
                answer(DONE, command, 0, 1, 0L);
            }
        }

        private void sendBlocks(Frame command, int at, int count) {
            for (int i = 0; i < count && at + i < blocks.length; i++) {
                Frame data = shared.draft(DATA, command.from(), node.address, command.ox());
                data.put(AT_PART, 1, i);
                data.addLoad(8, blocks[at + i]);
                node.port.post(data);
            }
        }

        private void takeData(Frame data) {
            for (int i = 0; i < OPEN_WRITES; i++) {
                OpenWrite write = writes[i];
                if (write.isOf(data) && write.rx == data.rx() && data.part() < write.count) {
                    write.keep(data.part(), data.number(HEADER, 8));
                    if (write.hasAll()) {
                        store(write);
                        answer(DONE, data, write.rx, 1, 0L);
                    }
                }
            }
        }

        private void store(OpenWrite write) {
            for (int i = 0; i < write.count && write.at + i < blocks.length; i++) {
                blocks[write.at + i] = write.values[i];
            }
            write.open = false;
        }

        private void takeAbort(Frame abort) {
            for (int i = 0; i < OPEN_WRITES; i++) {
                if (writes[i].isOf(abort)) {
                    writes[i].open = false;
                }
            }
            answer(ABORTED, abort, 0, 0, 0L);
        }
    }

    /** A WRITE that a disc waits with for its blocks. */
    private static final class OpenWrite {
        boolean open;
        private int ox;
        private int from;
        int rx;
        /** Its first block among those of both units. */
        int at;
        int count;
        int openedAt;
        private int cameBits;
        final long[] values = new long[PARTS];

        /** The command is looked at before: its blocks are there. */
        void begin(Frame command, int newRx, int time) {
            open = true;
            ox = command.ox();
            from = command.from();
            rx = newRx;
            at = command.load(0) * BLOCKS + command.load(2);
            count = command.load(3);
            openedAt = time;
            cameBits = 0;
        }

        boolean isOf(Frame frame) {
            return open && ox == frame.ox() && from == frame.from();
        }

        void keep(int part, long value) {
            if (part >= 0 && part < PARTS) {
                values[part] = value;
                cameBits |= 1 << part;
            }
        }

        boolean hasAll() {
            return cameBits == (1 << count) - 1;
        }
    }
}
