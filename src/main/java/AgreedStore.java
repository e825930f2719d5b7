import java.util.ArrayList;
import java.util.Arrays;

/**
 * An ordered map of bytes that several servers keep as one: a whole little world of servers, disks, a net and
 * clients, in which time passes only when it is told to.
 */
public final class AgreedStore {
    public static final int NONE = -1;

    private static final int SERVERS = 7;
    private static final int CLIENTS = 8;
    private static final int ENDPOINTS = 16;
    private static final int FIRST_CLIENT = 8;
    private static final int SYNC = 16;
    private static final int BELLS = 23;
    private static final int ON_THE_WAY = 128;
    private static final int ALL_SERVERS = 127;
    private static final int MANY = 1_000_000;
    private static final int LEAST = 0x80000000;
    private static final int GREATEST = 0x7FFFFFFF;

    /** All rows of numbers that seem to be drawn go on so: times FACTOR plus ADDEND. */
    private static final long FACTOR = 6364136223846793005L;
    private static final long ADDEND = 1442695040888963407L;

    /** Letters. */
    private static final int PREASK = 1;
    private static final int PREANSWER = 2;
    private static final int ASK = 3;
    private static final int ANSWER = 4;
    private static final int APPEND = 5;
    private static final int APPENDED = 6;
    private static final int PIECE = 7;
    private static final int STORED = 8;
    private static final int GO = 9;
    private static final int REQUEST = 10;
    private static final int REPLY = 11;

    /** What a request wants, as its word. */
    private static final int TO_OPEN = 0;
    private static final int TO_DO = 1;
    private static final int TO_READ = 2;

    /** What a reply says, as its word. */
    private static final int DONE = 0;
    private static final int ELSEWHERE = 1;
    private static final int UNKNOWN = 2;
    private static final int BUSY = 3;
    /** What comes of an entry, besides DONE and UNKNOWN. */
    private static final int NOTHING = -1;

    /** What was told, as the history has it. */
    private static final int TOLD_DONE = 1;
    private static final int TOLD_UNCLEAR = 2;
    private static final int TOLD_GIVEN_UP = 3;

    /** Roles. */
    private static final int FOLLOWS = 0;
    private static final int ASKS = 1;
    private static final int STANDS = 2;
    private static final int LEADS = 3;

    /** Kinds of entries. */
    private static final int EMPTY = 0;
    private static final int MEMBERS = 1;
    private static final int COMMAND = 2;

    /** An entry is a row of six numbers; CODE is the code of members or the session, ASKING is NONE for OPEN. */
    private static final int ROW = 6;
    private static final int TERM = 0;
    private static final int KIND = 1;
    private static final int SIZE = 2;
    private static final int CODE = 3;
    private static final int SERIAL = 4;
    private static final int ASKING = 5;

    private static final int ENTRIES = 300;
    private static final int ENTRIES_TOLD = 250;
    private static final int ENTRIES_BUSY = 200;
    private static final int ENTRIES_COMPACT = 24;
    private static final int AT_ONCE = 6;
    private static final int PIECE_SIZE = 200;
    private static final int WAITING = 32;

    /** Files. */
    private static final int FILES = 16;
    private static final int SNAPSHOTS = 2;
    private static final int SEGMENTS = 4;
    private static final int SEGMENT_FULL = 8000;
    private static final int FRAME = 8;
    private static final int SLOT_SIZE = 24 + FRAME;
    private static final int SNAPSHOT_HEAD = 12 + FRAME;
    private static final int SEGMENT_HEAD = 16 + FRAME;
    private static final int ENTRY_HEAD = 17 + FRAME;

    /** What is asked. */
    private static final int PUT = 0;
    private static final int SWAP = 1;
    private static final int REMOVE = 2;
    private static final int GET = 3;
    private static final int COUNT = 4;
    private static final int NEXT = 5;
    private static final int ASKINGS = 1024;

    private static final int TAPE = 400;
    private static final int FED = 20;
    private static final int KEY_SIZE = 32;
    private static final int VALUE_SIZE = 100;
    /** The longest answer is that of NEXT: 1, the size of the key, the key, the value. */
    private static final int ANSWER_SIZE = 2 + KEY_SIZE + VALUE_SIZE;

    private final World world;
    private final Askings askings;
    private final Server[] hosts = new Server[SERVERS];
    private final Client[] askers = new Client[CLIENTS];
    private final byte[] tape = new byte[TAPE];
    private int taped;
    private final byte[] result = new byte[ANSWER_SIZE];
    private int resultSize;

    public AgreedStore(int servers, long row) {
        int first = (1 << Math.max(1, Math.min(SERVERS, servers))) - 1;
        world = new World(row);
        askings = new Askings();
        for (int s = 0; s < SERVERS; s++) {
            hosts[s] = new Server(s, first, world, askings);
            world.drawAlarm(s);
        }
        for (int c = 0; c < CLIENTS; c++) {
            askers[c] = new Client(FIRST_CLIENT + c, world, askings);
        }
    }

    public int feed(int a, int b, int c, int d, int e) throws IllegalStateException {
        if (taped + FED > TAPE) {
            throw new IllegalStateException();
        }
        putOnTape(a);
        putOnTape(b);
        putOnTape(c);
        putOnTape(d);
        putOnTape(e);
        return taped;
    }

    public int end(int n) throws IllegalArgumentException, IllegalStateException {
        if (n < 0 || n > FED) {
            throw new IllegalArgumentException();
        }
        if (taped < FED) {
            throw new IllegalStateException();
        }
        taped -= FED - n;
        return taped;
    }

    public int ask(int client, int kind, int k, int v)
            throws IndexOutOfBoundsException, IllegalArgumentException, IllegalStateException {
        int size = taped;
        taped = 0;
        Client asker = asker(client);
        if (!isAskable(kind, k, v, size)) {
            throw new IllegalArgumentException();
        }
        if (asker.waits || askings.size >= ASKINGS) {
            throw new IllegalStateException();
        }
        int asking = askings.add(client, kind, k, v);
        askings.addBytes(asking, tape, size);
        asker.begin(asking);
        return asking;
    }

    public boolean giveUp(int client) throws IndexOutOfBoundsException {
        Client asker = asker(client);
        boolean waited = asker.waits;
        if (waited) {
            asker.giveIn();
        }
        return waited;
    }

    public int run(int n) throws IllegalArgumentException {
        if (n < 1 || n > 1000) {
            throw new IllegalArgumentException();
        }
        int until = world.now + n;
        int events = 0;
        while (events < MANY && happen(until) != NONE) {
            events++;
        }
        world.now = until;
        return events;
    }

    public int step() {
        return happen(GREATEST);
    }

    public int delay(int from, int to, int ticks) throws IndexOutOfBoundsException, IllegalArgumentException {
        if (!isEndpoint(from) || !isEndpoint(to)) {
            throw new IndexOutOfBoundsException();
        }
        if (ticks < 1 || ticks > 1000) {
            throw new IllegalArgumentException();
        }
        int link = from * ENDPOINTS + to;
        int was = world.delays[link];
        world.delays[link] = ticks;
        return was;
    }

    public int part(int set) throws IllegalArgumentException {
        if (set < 0 || set >= 1 << ENDPOINTS) {
            throw new IllegalArgumentException();
        }
        int was = world.apart;
        world.apart = set;
        return was;
    }

    public void noise(int loss, int twice, int spread, long draw) throws IllegalArgumentException {
        if (loss < 0 || loss > 1000 || twice < 0 || twice > 1000 || spread < 0 || spread > 1000) {
            throw new IllegalArgumentException();
        }
        world.loss = loss;
        world.twice = twice;
        world.spread = spread;
        world.draw = draw;
    }

    public boolean meddle(int k, int what, int ticks) throws IllegalArgumentException {
        if (what < 0 || what > 2 || ticks < 0 || ticks > 1000) {
            throw new IllegalArgumentException();
        }
        if (!world.hasLetter(k)) {
            return false;
        }
        if (what == 0) {
            world.dropLetter(k);
        } else if (what == 1) {
            world.doubleLetter(k);
        } else {
            world.deferLetter(k, ticks);
        }
        return true;
    }

    public int latency(int server, int ticks) throws IndexOutOfBoundsException, IllegalArgumentException {
        Server host = host(server);
        if (ticks < 0 || ticks > 1000) {
            throw new IllegalArgumentException();
        }
        int was = world.latency[host.id];
        world.latency[host.id] = ticks;
        return was;
    }

    public boolean crash(int server, long row) throws IndexOutOfBoundsException {
        Server host = host(server);
        boolean was = host.up;
        if (was) {
            host.fall(row);
        }
        return was;
    }

    public boolean stop(int server) throws IndexOutOfBoundsException {
        Server host = host(server);
        boolean was = host.up;
        if (was) {
            host.goDown();
        }
        return was;
    }

    public boolean start(int server) throws IndexOutOfBoundsException {
        Server host = host(server);
        boolean was = host.up;
        if (!was) {
            host.comeUp();
        }
        return !was;
    }

    public boolean members(int server, int set) throws IndexOutOfBoundsException {
        Server host = host(server);
        if (!host.maySetMembers() || set < 1 || set > ALL_SERVERS || !host.areKnown(set)) {
            return false;
        }
        int code = host.log.members;
        int learning = code >> 14 & ~set;
        host.setMembers(code & ALL_SERVERS | set << 7 | learning << 14);
        return true;
    }

    public boolean learners(int server, int set) throws IndexOutOfBoundsException {
        Server host = host(server);
        int old = host.log.members & ALL_SERVERS;
        if (!host.maySetMembers() || set < 0 || set > ALL_SERVERS || (set & old) != 0) {
            return false;
        }
        host.setMembers(old | set << 14);
        return true;
    }

    public boolean hand(int server, int to) throws IndexOutOfBoundsException {
        Server host = host(server);
        if (!host.mayLead() || to < 0 || to >= SERVERS || to == server || (host.voters() >> to & 1) == 0) {
            return false;
        }
        host.handOver(to);
        return true;
    }

    public int now() {
        return world.now;
    }

    public int server(int server, int what) throws IndexOutOfBoundsException {
        Server host = host(server);
        if (what < 0 || what > 20) {
            throw new IndexOutOfBoundsException();
        }
        if (what == 0) {
            return host.up ? 1 : 0;
        }
        return host.up ? host.tell(what) : NONE;
    }

    public int entry(int server, int i, int what) throws IndexOutOfBoundsException {
        Server host = host(server);
        if (!host.up || what < 0 || what > 2) {
            throw new IndexOutOfBoundsException();
        }
        Log log = host.log;
        if (i == log.base && what == TERM) {
            return log.baseTerm;
        }
        if (!log.has(i)) {
            throw new IndexOutOfBoundsException();
        }
        return log.rows[log.at(i) + what];
    }

    public int file(int server, int file, int what) throws IndexOutOfBoundsException {
        Server host = host(server);
        if (file < 0 || file >= FILES || what < 0 || what > 4) {
            throw new IndexOutOfBoundsException();
        }
        return host.disk.tell(file, what);
    }

    public int key(int server, int k) throws IndexOutOfBoundsException {
        Machine machine = machineWith(server, k);
        resultSize = machine.copyKey(k, result);
        return resultSize;
    }

    public int value(int server, int k) throws IndexOutOfBoundsException {
        Machine machine = machineWith(server, k);
        resultSize = machine.copyValue(k, result);
        return resultSize;
    }

    public int message(int k, int what) throws IndexOutOfBoundsException {
        if (!world.hasLetter(k) || what < 0 || what > 4) {
            throw new IndexOutOfBoundsException();
        }
        Letter letter = world.way.get(k);
        switch (what) {
            case 0: return letter.from;
            case 1: return letter.to;
            case 2: return letter.kind;
            case 3: return letter.term;
            default: return letter.time;
        }
    }

    public int client(int client, int what) throws IndexOutOfBoundsException {
        Client asker = asker(client);
        switch (what) {
            case 0: return asker.waits ? 1 : 0;
            case 1: return asker.target;
            case 2: return asker.session;
            case 3: return asker.serial;
            case 4: return asker.request;
            case 5: return asker.tries;
            default: throw new IndexOutOfBoundsException();
        }
    }

    public int answer(int client) throws IndexOutOfBoundsException {
        Client asker = asker(client);
        System.arraycopy(asker.told, 0, result, 0, asker.toldSize);
        resultSize = asker.toldSize;
        return resultSize;
    }

    public int history(int i, int what) throws IndexOutOfBoundsException {
        if (i < 0 || i >= askings.size || what < 0 || what > 5) {
            throw new IndexOutOfBoundsException();
        }
        return askings.tell(i, what);
    }

    public int byteAt(int i) throws IndexOutOfBoundsException {
        if (i < 0 || i >= resultSize) {
            throw new IndexOutOfBoundsException();
        }
        return result[i] & 255;
    }

    public int count(int what) {
        switch (what) {
            case 0: return world.way.size();
            case 1: return world.ever;
            case 2: return world.lost;
            case 3: return world.happened;
            case 4: return askings.size;
            case 5: return askings.moments;
            case 6: return taped;
            default: return NONE;
        }
    }

    private void putOnTape(int four) {
        for (int shift = 24; shift >= 0; shift -= 8) {
            if (taped < TAPE) {
                tape[taped] = (byte) (four >> shift);
                taped++;
            }
        }
    }

    private Server host(int server) {
        if (server < 0 || server >= SERVERS) {
            throw new IndexOutOfBoundsException();
        }
        return hosts[server];
    }

    private Client asker(int client) {
        if (client < 0 || client >= CLIENTS) {
            throw new IndexOutOfBoundsException();
        }
        return askers[client];
    }

    private Machine machineWith(int server, int k) {
        Server host = host(server);
        if (!host.up || k < 0 || k >= host.machine.keys) {
            throw new IndexOutOfBoundsException();
        }
        return host.machine;
    }

    /** There is no endpoint between the last server and the first client. */
    private static boolean isEndpoint(int e) {
        return e >= 0 && e < ENDPOINTS && e != SERVERS;
    }

    private static boolean isAskable(int kind, int k, int v, int size) {
        if (kind < PUT || kind > NEXT || k < 1 || k > KEY_SIZE || k > size || (v != 0 && kind != SWAP)) {
            return false;
        }
        int rest = size - k;
        switch (kind) {
            case PUT: return rest <= VALUE_SIZE;
            case SWAP: return v >= 0 && v <= VALUE_SIZE && v <= rest && rest - v <= VALUE_SIZE;
            case COUNT: return rest >= 1 && rest <= KEY_SIZE;
            default: return rest == 0;
        }
    }

    /** The event that is due next, if it is due by then: whose it is, or NONE. */
    private int happen(int until) {
        Letter letter = world.firstLetter();
        int bell = world.firstBell();
        if (letter != null && (bell == NONE || world.isBefore(letter, bell))) {
            if (letter.time > until) {
                return NONE;
            }
            int to = letter.to;
            world.takeFirstLetter();
            if (world.areParted(letter.from, to) || (to < SERVERS && !hosts[to].up)) {
                world.lost++;
            } else if (to < SERVERS) {
                hosts[to].receive(letter);
                hosts[to].settle(letter);
            } else {
                askers[to - FIRST_CLIENT].hear(letter);
            }
            world.spare.add(letter);
            return to;
        }
        if (bell == NONE || world.bellTime[bell] > until) {
            return NONE;
        }
        world.takeBell(bell);
        if (bell >= SYNC) {
            hosts[bell - SYNC].sync();
            hosts[bell - SYNC].settle(null);
        } else if (bell < SERVERS) {
            hosts[bell].wake();
            hosts[bell].settle(null);
        } else {
            askers[bell - FIRST_CLIENT].wake();
        }
        return bell;
    }

    /** A letter between servers, a request or a reply; it is used again when it has arrived or was lost. */
    private static final class Letter {
        int time;
        int order;
        int from;
        int to;
        int kind;
        /** The request number in requests and replies. */
        int term;
        /** Whether it grants or was appended, what a request wants, what a reply says. */
        int word;
        /** The entry, BASE, place or server that it tells of. */
        int place;
        int placeTerm;
        int commit;
        int round;
        int members;
        int size;
        int offset;
        int session;
        int serial;
        int asking;
        /** How many entries or bytes it brings. */
        int count;
        final int[] rows = new int[AT_ONCE * ROW];
        final byte[] bytes = new byte[PIECE_SIZE];

        void copyFrom(Letter other) {
            from = other.from;
            to = other.to;
            kind = other.kind;
            term = other.term;
            word = other.word;
            place = other.place;
            placeTerm = other.placeTerm;
            commit = other.commit;
            round = other.round;
            members = other.members;
            size = other.size;
            offset = other.offset;
            session = other.session;
            serial = other.serial;
            asking = other.asking;
            count = other.count;
            System.arraycopy(other.rows, 0, rows, 0, rows.length);
            System.arraycopy(other.bytes, 0, bytes, 0, bytes.length);
        }

        void fill(byte[] source, int at, int most) {
            count = Math.max(0, Math.min(Math.min(most, bytes.length), source.length - at));
            if (count > 0) {
                System.arraycopy(source, at, bytes, 0, count);
            }
        }
    }

    /** Time, the net, and all alarms and syncs: 0 .. 15 are the endpoints' alarms, 16 .. 22 the servers' syncs. */
    private static final class World {
        int now;
        int made;
        int happened;
        int ever;
        int lost;
        int apart;
        int loss;
        int twice;
        int spread;
        long draw;
        final int[] bellTime = new int[BELLS];
        final int[] bellOrder = new int[BELLS];
        final int[] delays = new int[ENDPOINTS * ENDPOINTS];
        final int[] latency = new int[SERVERS];
        final long[] rows = new long[SERVERS];
        /** In the order in which they will arrive. */
        final ArrayList<Letter> way = new ArrayList<>();
        final ArrayList<Letter> spare = new ArrayList<>();

        World(long row) {
            Arrays.fill(bellTime, NONE);
            Arrays.fill(delays, 3);
            Arrays.fill(latency, 2);
            for (int s = 0; s < SERVERS; s++) {
                rows[s] = row + s;
            }
        }

        boolean areParted(int from, int to) {
            return ((apart >> from ^ apart >> to) & 1) != 0;
        }

        Letter blank() {
            return spare.isEmpty() ? new Letter() : spare.remove(spare.size() - 1);
        }

        void post(Letter letter) {
            if (areParted(letter.from, letter.to)) {
                lose(letter);
                return;
            }
            int due = now + delays[letter.from * ENDPOINTS + letter.to];
            if (loss == 0 && twice == 0 && spread == 0) {
                launch(letter, due);
                return;
            }
            if (drawn(1000) < loss) {
                lose(letter);
                return;
            }
            boolean doubled = drawn(1000) < twice;
            Letter second = !doubled ? null : spare.isEmpty() ? new Letter() : spare.remove(spare.size() - 1);
            if (second != null) {
                second.copyFrom(letter);
            }
            launch(letter, due + drawn(spread + 1));
            if (second != null) {
                launch(second, due + drawn(spread + 1));
            }
        }

        int drawn(int bound) {
            draw = draw * FACTOR + ADDEND;
            return bound < 1 ? 0 : (int) ((draw >>> 33) % bound);
        }

        void lose(Letter letter) {
            lost++;
            spare.add(letter);
        }

        void launch(Letter letter, int time) {
            if (way.size() >= ON_THE_WAY) {
                lost++;
                spare.add(letter);
                return;
            }
            letter.time = time;
            letter.order = made;
            made++;
            ever++;
            int at = way.size();
            while (at > 0 && way.get(at - 1).time > time) {
                at--;
            }
            way.add(at, letter);
        }

        boolean hasLetter(int k) {
            return k >= 0 && k < way.size();
        }

        void dropLetter(int k) {
            if (hasLetter(k)) {
                lose(way.remove(k));
            }
        }

        void doubleLetter(int k) {
            if (hasLetter(k)) {
                Letter letter = way.get(k);
                Letter second = blank();
                second.copyFrom(letter);
                launch(second, now + delays[letter.from * ENDPOINTS + letter.to]);
            }
        }

        void deferLetter(int k, int ticks) {
            if (hasLetter(k)) {
                Letter letter = way.remove(k);
                // It is a new event, but no new message.
                ever--;
                launch(letter, letter.time + ticks);
            }
        }

        Letter firstLetter() {
            return way.isEmpty() ? null : way.get(0);
        }

        void takeFirstLetter() {
            if (!way.isEmpty()) {
                now = way.remove(0).time;
                happened++;
            }
        }

        void setBell(int bell, int time) {
            bellTime[bell] = time;
            bellOrder[bell] = made;
            made++;
        }

        void hush(int bell) {
            bellTime[bell] = NONE;
        }

        void takeBell(int bell) {
            now = bellTime[bell];
            happened++;
            hush(bell);
        }

        int firstBell() {
            int first = NONE;
            for (int b = 0; b < BELLS; b++) {
                if (bellTime[b] != NONE && (first == NONE || bellTime[b] < bellTime[first]
                        || (bellTime[b] == bellTime[first] && bellOrder[b] < bellOrder[first]))) {
                    first = b;
                }
            }
            return first;
        }

        boolean isBefore(Letter letter, int bell) {
            return letter.time < bellTime[bell] || (letter.time == bellTime[bell] && letter.order < bellOrder[bell]);
        }

        void drawAlarm(int server) {
            rows[server] = rows[server] * FACTOR + ADDEND;
            setBell(server, now + 50 + (int) ((rows[server] >>> 33) % 50));
        }
    }

    /** What a file holds: a slot, a snapshot or a segment. Frames that were cut are kept as a size alone. */
    private static final class Page {
        boolean there;
        int size;
        /** The number of the writing of a slot, BASE of a snapshot, the first number of a segment. */
        int first;
        /** TERM in a slot, the snapshot's term, the term of the entry before a segment. */
        int term;
        /** VOTED in a slot, the snapshot's members. */
        int more;
        /** How many entries are whole. */
        int count;
        int[] rows = new int[0];
        /** Where the frame of each entry ends. */
        int[] ends = new int[0];
        byte[] bytes = new byte[0];
        int length;

        void write(int headSize, int newFirst, int newTerm, int newMore) {
            there = true;
            size = headSize;
            first = newFirst;
            term = newTerm;
            more = newMore;
            count = 0;
            length = 0;
        }

        void remove() {
            there = false;
            size = 0;
            count = 0;
        }

        void add(int[] source, int at) {
            makeRoom(count + 1);
            System.arraycopy(source, at, rows, count * ROW, ROW);
            size += ENTRY_HEAD + source[at + SIZE];
            ends[count] = size;
            count++;
        }

        void makeRoom(int entries) {
            if (ends.length < entries) {
                int room = Math.max(16, 2 * entries);
                ends = Arrays.copyOf(ends, room);
                rows = Arrays.copyOf(rows, room * ROW);
            }
        }

        void makeRoomForBytes(int wanted) {
            if (bytes.length < wanted) {
                bytes = new byte[wanted + wanted / 2];
            }
        }

        int frameStart(int k) {
            return k > 0 && k <= count ? ends[k - 1] : SEGMENT_HEAD;
        }

        int lastTerm() {
            return count > 0 ? rows[(count - 1) * ROW + TERM] : term;
        }

        void cutTo(int n) {
            if (size > n) {
                size = n;
                while (count > 0 && ends[count - 1] > n) {
                    count--;
                }
            }
        }

        /** Becomes what the other is, whose first entries it has already. */
        void takeOver(Page other, int same) {
            there = other.there;
            size = other.size;
            first = other.first;
            term = other.term;
            more = other.more;
            makeRoom(other.count);
            int missing = other.count - same;
            if (missing > 0) {
                System.arraycopy(other.rows, same * ROW, rows, same * ROW, missing * ROW);
                System.arraycopy(other.ends, same, ends, same, missing);
            }
            count = other.count;
        }
    }

    /** The files of a server, as they are and as they were synced. */
    private static final class Disk {
        final Page[] pages = new Page[FILES];
        /** A snapshot is synced as soon as it is written: its page is both. */
        final Page[] kept = new Page[FILES];
        final int[] low = new int[FILES];
        /** How many of their first entries a page and the kept one have in common. */
        final int[] same = new int[FILES];
        final int[] chain = new int[FILES];
        int segments;
        int slot = NONE;
        /** Whether that slot was written since the last sync of all. */
        boolean fresh;
        int writes;
        int snapshot = NONE;

        Disk() {
            for (int f = 0; f < FILES; f++) {
                pages[f] = new Page();
                kept[f] = f >= SNAPSHOTS && f < SEGMENTS ? pages[f] : new Page();
            }
        }

        int tell(int file, int what) {
            switch (what) {
                case 0: return pages[file].size;
                case 1: return kept[file].size;
                case 2: return low[file];
                case 3: return pages[file].there ? 1 : 0;
                default: return kept[file].there ? 1 : 0;
            }
        }

        void writeSlot(int term, int voted) {
            if (!fresh) {
                slot = slot == 1 ? 0 : 1;
            }
            fresh = true;
            writes++;
            low[slot] = 0;
            pages[slot].write(SLOT_SIZE, writes, term, voted);
        }

        void writeSnapshot(int base, int term, int members, byte[] bytes, int length) {
            snapshot = snapshot == SNAPSHOTS ? SNAPSHOTS + 1 : SNAPSHOTS;
            Page page = pages[snapshot];
            page.write(SNAPSHOT_HEAD + length, base, term, members);
            page.makeRoomForBytes(length);
            System.arraycopy(bytes, 0, page.bytes, 0, length);
            page.length = length;
            low[snapshot] = page.size;
        }

        int snapshotSize() {
            return snapshot == NONE ? 0 : pages[snapshot].length;
        }

        void append(int[] rows, int at, int number, int termBefore) {
            if (segments == 0 || pages[chain[segments - 1]].size > SEGMENT_FULL) {
                openSegment(number, termBefore);
            }
            if (segments > 0) {
                pages[chain[segments - 1]].add(rows, at);
            }
        }

        void openSegment(int number, int termBefore) {
            for (int f = SEGMENTS; f < FILES; f++) {
                if (!pages[f].there) {
                    pages[f].write(SEGMENT_HEAD, number, termBefore, 0);
                    low[f] = 0;
                    same[f] = 0;
                    chain[segments] = f;
                    segments++;
                    return;
                }
            }
        }

        void cutFrom(int number) {
            while (segments > 0 && pages[chain[segments - 1]].first >= number) {
                segments--;
                remove(chain[segments]);
            }
            if (segments > 0) {
                int file = chain[segments - 1];
                cutTo(file, pages[file].frameStart(number - pages[file].first));
            }
        }

        /** Forgets the segments that have no entry above BASE, but the last one as long as there is a log. */
        void baseMoved(int base, int last) {
            int left = 0;
            for (int i = 0; i < segments; i++) {
                Page page = pages[chain[i]];
                boolean stays = last > base && (i == segments - 1 || page.first + page.count - 1 > base);
                if (stays) {
                    chain[left] = chain[i];
                    left++;
                } else {
                    remove(chain[i]);
                }
            }
            segments = left;
        }

        void remove(int file) {
            pages[file].remove();
            low[file] = 0;
            same[file] = 0;
        }

        void cutTo(int file, int n) {
            pages[file].cutTo(n);
            low[file] = Math.min(low[file], pages[file].size);
            same[file] = Math.min(same[file], pages[file].count);
        }

        void syncAll() {
            for (int f = 0; f < FILES; f++) {
                syncFile(f);
            }
            fresh = false;
        }

        void syncFile(int file) {
            if (kept[file] != pages[file]) {
                kept[file].takeOver(pages[file], same[file]);
                same[file] = pages[file].count;
            }
            low[file] = pages[file].size;
        }

        void fall(long row) {
            long r = row;
            for (int f = 0; f < FILES; f++) {
                r = r * FACTOR + ADDEND;
                int span = 2 * Math.max(0, pages[f].size - low[f]) + 1;
                if (r >>> 61 != 0) {
                    cutTo(f, low[f] + (int) ((r >>> 33 & 0xFFFFF) % span));
                } else if (kept[f] != pages[f]) {
                    pages[f].takeOver(kept[f], same[f]);
                    same[f] = pages[f].count;
                }
                syncFile(f);
            }
        }

        /** Finds the slot, the snapshot and the log's segments; what does not belong to them is cut off or removed. */
        void find() {
            slot = later(0, 1, SLOT_SIZE);
            snapshot = later(SNAPSHOTS, SNAPSHOTS + 1, SNAPSHOT_HEAD);
            fresh = false;
            findChain();
            for (int f = SEGMENTS; f < FILES; f++) {
                if (isChained(f)) {
                    cutTo(f, pages[f].frameStart(pages[f].count));
                } else {
                    remove(f);
                }
            }
        }

        /** Of two files that one whose head is whole and tells the greater number. */
        int later(int one, int other, int head) {
            boolean oneWhole = pages[one].there && pages[one].size >= head;
            boolean otherWhole = pages[other].there && pages[other].size >= head;
            if (oneWhole && otherWhole) {
                return pages[one].first > pages[other].first ? one : other;
            }
            return oneWhole ? one : otherWhole ? other : NONE;
        }

        void findChain() {
            segments = 0;
            int base = snapshot == NONE ? 0 : pages[snapshot].first;
            int term = snapshot == NONE ? 0 : pages[snapshot].term;
            int file = firstSegment(base);
            if (file == NONE || !tellsTerm(pages[file], base, term)) {
                return;
            }
            while (file != NONE && segments < FILES) {
                chain[segments] = file;
                segments++;
                Page page = pages[file];
                file = page.count == 0 ? NONE : segmentAt(page.first + page.count, page.lastTerm());
            }
        }

        int firstSegment(int base) {
            int best = NONE;
            for (int f = SEGMENTS; f < FILES; f++) {
                if (isSegment(f) && pages[f].first <= base + 1
                        && (best == NONE || pages[f].first > pages[best].first)) {
                    best = f;
                }
            }
            return best;
        }

        /** Whether the entry is in that segment, or just before it, with that term. */
        static boolean tellsTerm(Page page, int number, int term) {
            int k = number - page.first;
            if (k < -1 || k >= page.count) {
                return false;
            }
            return term == (k < 0 ? page.term : page.rows[k * ROW + TERM]);
        }

        int segmentAt(int number, int termBefore) {
            for (int f = SEGMENTS; f < FILES; f++) {
                if (isSegment(f) && pages[f].first == number && pages[f].term == termBefore) {
                    return f;
                }
            }
            return NONE;
        }

        boolean isSegment(int file) {
            return pages[file].there && pages[file].size >= SEGMENT_HEAD;
        }

        boolean isChained(int file) {
            for (int i = 0; i < segments; i++) {
                if (chain[i] == file) {
                    return true;
                }
            }
            return false;
        }
    }

    /** The entries above BASE, what BASE has, and how far a server has come with them. */
    private static final class Log {
        final int firstMembers;
        final int[] rows = new int[ENTRIES * ROW];
        final int[] draft = new int[ROW];
        int base;
        int baseTerm;
        int baseMembers;
        int last;
        int members;
        int membersAt;
        int commit;
        int applied;
        int synced;

        Log(int firstMembers) {
            this.firstMembers = firstMembers;
            baseMembers = firstMembers;
            members = firstMembers;
        }

        void clear() {
            base = 0;
            baseTerm = 0;
            baseMembers = firstMembers;
            last = 0;
            findMembers();
        }

        boolean has(int number) {
            return number > base && number <= last;
        }

        int at(int number) {
            return (number - base - 1) * ROW;
        }

        int length() {
            return last - base;
        }

        int termAt(int number) {
            if (number == base) {
                return baseTerm;
            }
            return has(number) ? rows[at(number) + TERM] : NONE;
        }

        /** The least number above BASE from which on all entries up to this one have its term. */
        int runStart(int number) {
            int start = Math.max(number, base + 1);
            int term = termAt(start);
            while (start > base + 1 && termAt(start - 1) == term) {
                start--;
            }
            return start;
        }

        /** The row of an entry that is to be written at once. */
        int[] rowOf(int term, int kind, int size, int code, int serial, int asking) {
            draft[TERM] = term;
            draft[KIND] = kind;
            draft[SIZE] = size;
            draft[CODE] = code;
            draft[SERIAL] = serial;
            draft[ASKING] = asking;
            return draft;
        }

        void add(int[] source, int at) {
            if (length() >= ENTRIES) {
                return;
            }
            System.arraycopy(source, at, rows, length() * ROW, ROW);
            last++;
            if (source[at + KIND] == MEMBERS) {
                members = source[at + CODE];
                membersAt = last;
            }
        }

        void cutFrom(int number) {
            last = Math.max(base, Math.min(last, number - 1));
            synced = Math.min(synced, last);
            findMembers();
        }

        /** What is above a new BASE stays if the log has its entry with that term. */
        void moveBase(int number, int term, int code) {
            int left = termAt(number) == term ? last - number : 0;
            if (left > 0) {
                System.arraycopy(rows, at(number + 1), rows, 0, left * ROW);
            }
            base = number;
            baseTerm = term;
            baseMembers = code;
            last = number + left;
            synced = Math.min(synced, last);
            findMembers();
        }

        void findMembers() {
            membersAt = membersBehind(last);
            members = membersAt == base ? baseMembers : rows[at(membersAt) + CODE];
        }

        int membersUpTo(int number) {
            int found = membersBehind(number);
            return found == base ? baseMembers : rows[at(found) + CODE];
        }

        /** The number of the last entry of kind MEMBERS that is not above this one, or BASE. */
        private int membersBehind(int number) {
            int entry = Math.min(number, last) - base - 1;
            while (entry >= 0 && rows[entry * ROW + KIND] != MEMBERS) {
                entry--;
            }
            return base + 1 + Math.max(NONE, entry);
        }
    }

    /** Sessions in the order of their numbers, and the map, whose keys and values lie in cells. */
    private static final class Machine {
        private static final int SESSIONS = 16;
        private static final int KEYS = 128;
        private static final int UNITS = 700;
        private static final int CELL = KEY_SIZE + VALUE_SIZE;
        private static final int SAVED = 1 + VALUE_SIZE;
        private static final int SESSION_ROW = 5;
        private static final int SESSION_USED = 1;
        private static final int SESSION_SERIAL = 2;
        private static final int SESSION_PLACE = 3;
        private static final int SESSION_ANSWER = 4;
        private static final int SESSION_FRAME = 18;
        private static final int KEY_FRAME = 3;

        final Askings askings;
        int sessions;
        final int[] sessionRows = new int[SESSIONS * SESSION_ROW];
        final byte[] answers = new byte[SESSIONS * SAVED];
        int keys;
        int units;
        /** The cells of the keys in order, then those that are free. */
        final int[] cellOf = new int[KEYS];
        final int[] keySize = new int[KEYS];
        final int[] valueSize = new int[KEYS];
        final byte[] cells = new byte[KEYS * CELL];
        final byte[] out = new byte[ANSWER_SIZE];
        int outSize;
        /** What came of the last entry: DONE, UNKNOWN or NOTHING, and the place of its answer. */
        int came;
        int cameAt;
        byte[] saved = new byte[0];

        Machine(Askings askings) {
            this.askings = askings;
            for (int k = 0; k < KEYS; k++) {
                cellOf[k] = k;
            }
        }

        void clear() {
            sessions = 0;
            keys = 0;
            units = 0;
        }

        /** What comes of a command's entry; answers the session whose operation is still to be done for it, or NONE. */
        int admit(int place, int[] rows, int at) {
            came = DONE;
            cameAt = place;
            outSize = 0;
            if (rows[at + ASKING] == NONE) {
                openSession(place);
                return NONE;
            }
            int s = findSession(rows[at + CODE]);
            if (s == NONE) {
                came = UNKNOWN;
                return NONE;
            }
            int row = s * SESSION_ROW;
            int serial = sessionRows[row + SESSION_SERIAL];
            sessionRows[row + SESSION_USED] = place;
            if (rows[at + SERIAL] > serial) {
                return s;
            }
            if (rows[at + SERIAL] < serial) {
                came = NOTHING;
                return NONE;
            }
            cameAt = sessionRows[row + SESSION_PLACE];
            outSize = sessionRows[row + SESSION_ANSWER];
            System.arraycopy(answers, s * SAVED, out, 0, outSize);
            return NONE;
        }

        /** Does a session's operation: its answer is the session's from now on. */
        void operate(int s, int serial, int asking) {
            int from = askings.tell(asking, Askings.FROM);
            int k = askings.tell(asking, Askings.FIRST);
            int v = askings.tell(asking, Askings.SECOND);
            int rest = askings.tell(asking, Askings.LENGTH) - k;
            switch (askings.tell(asking, Askings.WHAT)) {
                case PUT: putKey(from, k, rest); break;
                case SWAP: swapKey(from, k, v, rest - v); break;
                default: removeKey(from, k); break;
            }
            int row = s * SESSION_ROW;
            sessionRows[row + SESSION_SERIAL] = serial;
            sessionRows[row + SESSION_PLACE] = cameAt;
            sessionRows[row + SESSION_ANSWER] = outSize;
            System.arraycopy(out, 0, answers, s * SAVED, outSize);
        }

        private void openSession(int place) {
            if (sessions == SESSIONS) {
                dropOldestSession();
            }
            int row = sessions * SESSION_ROW;
            Arrays.fill(sessionRows, row, row + SESSION_ROW, 0);
            sessionRows[row] = place;
            sessionRows[row + SESSION_USED] = place;
            sessions++;
        }

        private void dropOldestSession() {
            int oldest = 0;
            for (int s = 1; s < sessions; s++) {
                if (sessionRows[s * SESSION_ROW + SESSION_USED] < sessionRows[oldest * SESSION_ROW + SESSION_USED]) {
                    oldest = s;
                }
            }
            sessions--;
            int behind = sessions - oldest;
            int next = oldest + 1;
            System.arraycopy(sessionRows, next * SESSION_ROW, sessionRows, oldest * SESSION_ROW, behind * SESSION_ROW);
            System.arraycopy(answers, next * SAVED, answers, oldest * SAVED, behind * SAVED);
        }

        private int findSession(int number) {
            for (int s = 0; s < sessions; s++) {
                if (sessionRows[s * SESSION_ROW] == number) {
                    return s;
                }
            }
            return NONE;
        }

        private void putKey(int from, int k, int v) {
            int p = lowerBound(from, k);
            boolean there = isKey(p, from, k);
            if (!mayStore(p, there, k + v)) {
                say(2, NONE);
                return;
            }
            say(there ? 1 : 0, there ? p : NONE);
            if (!there) {
                insertKey(p, from, k);
            }
            storeValue(p, from + k, v);
        }

        private void swapKey(int from, int k, int expected, int v) {
            int p = lowerBound(from, k);
            if (!isKey(p, from, k)) {
                say(3, NONE);
            } else if (!hasValue(p, from + k, expected)) {
                say(0, p);
            } else if (!mayStore(p, true, k + v)) {
                say(2, NONE);
            } else {
                say(1, NONE);
                storeValue(p, from + k + expected, v);
            }
        }

        private void removeKey(int from, int k) {
            int p = lowerBound(from, k);
            if (!isKey(p, from, k)) {
                say(0, NONE);
                return;
            }
            say(1, p);
            int cell = cellOf[p];
            units -= unitsOf(p);
            keys--;
            System.arraycopy(cellOf, p + 1, cellOf, p, keys - p);
            cellOf[keys] = cell;
        }

        void look(int asking) {
            outSize = 0;
            int from = askings.tell(asking, Askings.FROM);
            int k = askings.tell(asking, Askings.FIRST);
            int rest = askings.tell(asking, Askings.LENGTH) - k;
            int p = lowerBound(from, k);
            switch (askings.tell(asking, Askings.WHAT)) {
                case GET:
                    boolean there = isKey(p, from, k);
                    say(there ? 1 : 0, there ? p : NONE);
                    break;
                case COUNT:
                    int many = Math.max(0, lowerBound(from + k, rest) - p);
                    say(many & 255, NONE);
                    out[1] = (byte) (many >> 8);
                    outSize = 2;
                    break;
                default:
                    sayNext(p);
                    break;
            }
        }

        /** The answer is a code and, if there is such a key, its value. */
        private void say(int code, int p) {
            out[0] = (byte) code;
            outSize = 1;
            if (p >= 0 && p < keys) {
                int cell = cellOf[p];
                System.arraycopy(cells, cell * CELL + KEY_SIZE, out, 1, valueSize[cell]);
                outSize += valueSize[cell];
            }
        }

        private void sayNext(int p) {
            say(p < keys ? 1 : 0, NONE);
            if (p < keys) {
                int cell = cellOf[p];
                out[1] = (byte) keySize[cell];
                System.arraycopy(cells, cell * CELL, out, 2, keySize[cell]);
                System.arraycopy(cells, cell * CELL + KEY_SIZE, out, 2 + keySize[cell], valueSize[cell]);
                outSize = 2 + keySize[cell] + valueSize[cell];
            }
        }

        /** The place of the least key that is not below the one that was asked with. */
        private int lowerBound(int from, int k) {
            int low = 0;
            int high = keys;
            while (low < high) {
                int middle = (low + high) / 2;
                if (compare(cellOf[middle], from, k) < 0) {
                    low = middle + 1;
                } else {
                    high = middle;
                }
            }
            return low;
        }

        private boolean isKey(int p, int from, int k) {
            return p < keys && compare(cellOf[p], from, k) == 0;
        }

        private int compare(int cell, int from, int k) {
            int size = keySize[cell];
            for (int i = 0; i < size && i < k; i++) {
                int difference = (cells[cell * CELL + i] & 255) - (askings.bytes[from + i] & 255);
                if (difference != 0) {
                    return difference;
                }
            }
            return size - k;
        }

        private boolean hasValue(int p, int from, int v) {
            int cell = cellOf[p];
            if (valueSize[cell] != v) {
                return false;
            }
            for (int i = 0; i < v; i++) {
                if (cells[cell * CELL + KEY_SIZE + i] != askings.bytes[from + i]) {
                    return false;
                }
            }
            return true;
        }

        private boolean mayStore(int p, boolean there, int bytes) {
            int before = there ? unitsOf(p) : 0;
            return (there || keys < KEYS) && units - before + (bytes + 15) / 16 <= UNITS;
        }

        private int unitsOf(int p) {
            int cell = cellOf[p];
            return (keySize[cell] + valueSize[cell] + 15) / 16;
        }

        /** A new key has no value yet and takes the units of itself alone. */
        private void insertKey(int p, int from, int k) {
            int cell = cellOf[keys];
            System.arraycopy(cellOf, p, cellOf, p + 1, keys - p);
            cellOf[p] = cell;
            keys++;
            keySize[cell] = k;
            valueSize[cell] = 0;
            System.arraycopy(askings.bytes, from, cells, cell * CELL, k);
            units += unitsOf(p);
        }

        private void storeValue(int p, int from, int v) {
            int cell = cellOf[p];
            units -= unitsOf(p);
            valueSize[cell] = v;
            System.arraycopy(askings.bytes, from, cells, cell * CELL + KEY_SIZE, v);
            units += unitsOf(p);
        }

        int copyKey(int p, byte[] target) {
            int cell = cellOf[p];
            System.arraycopy(cells, cell * CELL, target, 0, keySize[cell]);
            return keySize[cell];
        }

        int copyValue(int p, byte[] target) {
            int cell = cellOf[p];
            System.arraycopy(cells, cell * CELL + KEY_SIZE, target, 0, valueSize[cell]);
            return valueSize[cell];
        }

        /** Writes all into saved: how many bytes. Servers of one state write the same bytes. */
        int save() {
            int size = savedSize();
            if (saved.length < size) {
                saved = new byte[size + size / 2];
            }
            int at = saveNumber(0, sessions);
            for (int s = 0; s < sessions; s++) {
                int row = s * SESSION_ROW;
                for (int i = 0; i < SESSION_ANSWER; i++) {
                    at = saveNumber(at, sessionRows[row + i]);
                }
                int length = sessionRows[row + SESSION_ANSWER];
                saved[at] = (byte) (length >> 8);
                saved[at + 1] = (byte) length;
                System.arraycopy(answers, s * SAVED, saved, at + 2, length);
                at += 2 + length;
            }
            at = saveNumber(at, keys);
            for (int p = 0; p < keys; p++) {
                int cell = cellOf[p];
                saved[at] = (byte) keySize[cell];
                saved[at + 1] = (byte) (valueSize[cell] >> 8);
                saved[at + 2] = (byte) valueSize[cell];
                System.arraycopy(cells, cell * CELL, saved, at + KEY_FRAME, keySize[cell]);
                at += KEY_FRAME + keySize[cell];
                System.arraycopy(cells, cell * CELL + KEY_SIZE, saved, at, valueSize[cell]);
                at += valueSize[cell];
            }
            return size;
        }

        private int savedSize() {
            int size = 8;
            for (int s = 0; s < sessions; s++) {
                size += SESSION_FRAME + sessionRows[s * SESSION_ROW + SESSION_ANSWER];
            }
            for (int p = 0; p < keys; p++) {
                size += KEY_FRAME + keySize[cellOf[p]] + valueSize[cellOf[p]];
            }
            return size;
        }

        private int saveNumber(int at, int number) {
            for (int i = 0; i < 4; i++) {
                saved[at + i] = (byte) (number >> 24 - 8 * i);
            }
            return at + 4;
        }

        void load(byte[] source, int size) {
            clear();
            int at = loadSessions(source, size);
            int many = numberAt(source, at, 4, size);
            at += 4;
            for (int p = 0; p < many && p < KEYS && at + KEY_FRAME <= size; p++) {
                int k = numberAt(source, at, 1, size);
                int v = numberAt(source, at + 1, 2, size);
                at += KEY_FRAME;
                if (k > KEY_SIZE || v > VALUE_SIZE || at + k + v > size) {
                    return;
                }
                int cell = cellOf[p];
                keySize[cell] = k;
                valueSize[cell] = v;
                System.arraycopy(source, at, cells, cell * CELL, k);
                System.arraycopy(source, at + k, cells, cell * CELL + KEY_SIZE, v);
                at += k + v;
                keys++;
                units += unitsOf(p);
            }
        }

        private int loadSessions(byte[] source, int size) {
            int many = numberAt(source, 0, 4, size);
            int at = 4;
            for (int s = 0; s < many && s < SESSIONS && at + SESSION_FRAME <= size; s++) {
                int length = numberAt(source, at + SESSION_FRAME - 2, 2, size);
                if (length > SAVED || at + SESSION_FRAME + length > size) {
                    return size;
                }
                int row = s * SESSION_ROW;
                for (int i = 0; i < SESSION_ANSWER; i++) {
                    sessionRows[row + i] = numberAt(source, at + 4 * i, 4, size);
                }
                sessionRows[row + SESSION_ANSWER] = length;
                System.arraycopy(source, at + SESSION_FRAME, answers, s * SAVED, length);
                at += SESSION_FRAME + length;
                sessions++;
            }
            return at;
        }

        private static int numberAt(byte[] source, int at, int bytes, int size) {
            int number = 0;
            for (int i = at; i < at + bytes && i < size && i < source.length; i++) {
                number = number << 8 | source[i] & 255;
            }
            return number;
        }
    }

    /** What a leader knows of all servers. */
    private static final class Lead {
        final int[] next = new int[SERVERS];
        final int[] match = new int[SERVERS];
        final int[] flying = new int[SERVERS];
        final int[] offset = new int[SERVERS];
        final int[] ack = new int[SERVERS];
        final int[] seen = new int[SERVERS];
        final boolean[] probing = new boolean[SERVERS];
        final boolean[] answered = new boolean[SERVERS];
        int first;
        int round;
        int handing = NONE;
        int handed;

        void begin(int last, int now) {
            Arrays.fill(next, last + 1);
            Arrays.fill(match, 0);
            Arrays.fill(flying, 0);
            Arrays.fill(offset, 0);
            Arrays.fill(ack, 0);
            Arrays.fill(seen, now);
            for (int s = 0; s < SERVERS; s++) {
                probing[s] = true;
                answered[s] = false;
            }
            first = last + 1;
            round = 0;
            handing = NONE;
        }

        /** The greatest number that a majority has at least. */
        static int most(int[] numbers, int members) {
            int old = mostOf(numbers, members & ALL_SERVERS);
            int coming = members >> 7 & ALL_SERVERS;
            return coming == 0 ? old : Math.min(old, mostOf(numbers, coming));
        }

        private static int mostOf(int[] numbers, int set) {
            int most = LEAST;
            for (int s = 0; s < SERVERS; s++) {
                if ((set >> s & 1) != 0 && numbers[s] > most && isReached(numbers, set, numbers[s])) {
                    most = numbers[s];
                }
            }
            return most;
        }

        private static boolean isReached(int[] numbers, int set, int number) {
            int many = 0;
            for (int s = 0; s < SERVERS; s++) {
                if ((set >> s & 1) != 0 && numbers[s] >= number) {
                    many++;
                }
            }
            return 2 * many > Integer.bitCount(set);
        }
    }

    /** The last requests that began to wait; one gives way to the one that begins 32 behind it. */
    private static final class Requests {
        final boolean[] live = new boolean[WAITING];
        final int[] client = new int[WAITING];
        final int[] request = new int[WAITING];
        final int[] asking = new int[WAITING];
        final int[] number = new int[WAITING];
        /** The term in which it came. */
        final int[] term = new int[WAITING];
        /** The round that a read waits for; NONE for a command. */
        final int[] round = new int[WAITING];
        int begun;
        int alive;

        void begin(Letter letter, int waitedFor, int itsTerm, int itsRound) {
            int slot = slotOf(begun);
            begun++;
            if (!live[slot]) {
                alive++;
            }
            live[slot] = true;
            client[slot] = letter.from;
            request[slot] = letter.term;
            asking[slot] = letter.asking;
            number[slot] = waitedFor;
            term[slot] = itsTerm;
            round[slot] = itsRound;
        }

        static int slotOf(int k) {
            return k & WAITING - 1;
        }

        void drop(int slot) {
            if (live[slot]) {
                live[slot] = false;
                alive--;
            }
        }

        void dropAll() {
            for (int slot = 0; slot < WAITING; slot++) {
                live[slot] = false;
            }
            alive = 0;
        }

        /** The command that waits for this entry, or NONE. */
        int waitsFor(int entry) {
            for (int slot = 0; alive > 0 && slot < WAITING; slot++) {
                if (live[slot] && round[slot] == NONE && number[slot] == entry) {
                    return slot;
                }
            }
            return NONE;
        }
    }

    /**
     * A server. What follows from an event is noted as due while the event is taken in, and done by settle(), in the
     * order in which one thing follows from another.
     */
    private static final class Server {
        private static final int CAMPAIGN_DUE = 1;
        private static final int LEAD_DUE = 2;
        private static final int BEAT_DUE = 4;
        private static final int COUNT_DUE = 8;
        private static final int APPLY_DUE = 16;
        private static final int MEMBERS_DUE = 32;
        private static final int SEND_ALL_DUE = 64;
        private static final int READS_DUE = 128;
        private static final int SEND_BACK_DUE = 256;
        private static final int ACKNOWLEDGE_DUE = 512;

        final int id;
        final World world;
        final Disk disk = new Disk();
        final Log log;
        final Machine machine;
        final Lead lead = new Lead();
        final Requests requests = new Requests();
        final ArrayList<Letter> waiting = new ArrayList<>();
        boolean up = true;
        boolean dirty;
        int term;
        int voted = NONE;
        int role;
        int leader = NONE;
        int heard = NONE;
        int votes;
        int pieceBase = NONE;
        int got;
        byte[] pieces = new byte[0];
        int due;

        Server(int id, int firstMembers, World world, Askings askings) {
            this.id = id;
            this.world = world;
            log = new Log(firstMembers);
            machine = new Machine(askings);
        }

        int tell(int what) {
            switch (what) {
                case 1: return role;
                case 2: return term;
                case 3: return voted;
                case 4: return leader;
                case 5: return log.commit;
                case 6: return log.applied;
                case 7: return log.synced;
                case 8: return log.base;
                case 9: return log.last;
                case 10: return log.members;
                case 11: return votes;
                case 12: return lead.handing;
                case 13: return dirty ? 1 : 0;
                case 14: return role == LEADS ? lead.round : 0;
                case 15: return waiting.size();
                case 16: return requests.alive;
                case 17: return machine.sessions;
                case 18: return machine.keys;
                case 19: return machine.units;
                default: return disk.snapshotSize();
            }
        }

        int voters() {
            return (log.members | log.members >> 7) & ALL_SERVERS;
        }

        int peers() {
            return (log.members | log.members >> 7 | log.members >> 14) & ALL_SERVERS & ~(1 << id);
        }

        boolean isMajority(int set) {
            int old = log.members & ALL_SERVERS;
            int coming = log.members >> 7 & ALL_SERVERS;
            return 2 * Integer.bitCount(set & old) > Integer.bitCount(old)
                    && (coming == 0 || 2 * Integer.bitCount(set & coming) > Integer.bitCount(coming));
        }

        private boolean takeDue(int what) {
            boolean was = (due & what) != 0;
            due &= ~what;
            return was;
        }

        /** Does what is due after an event; the letter is the one that came, or null. */
        void settle(Letter letter) {
            if (takeDue(CAMPAIGN_DUE)) {
                campaign();
            }
            if (takeDue(LEAD_DUE)) {
                takeLead();
            }
            if (takeDue(BEAT_DUE)) {
                beat();
                sendToAll(true);
                answerReads();
            }
            if (takeDue(COUNT_DUE)) {
                countMatches();
            }
            if (takeDue(APPLY_DUE)) {
                apply();
                answerReads();
                compact();
            }
            if (takeDue(MEMBERS_DUE)) {
                moveMembers();
            }
            if (takeDue(SEND_ALL_DUE)) {
                sendToAll(false);
            }
            if (takeDue(READS_DUE)) {
                answerReads();
            }
            if (takeDue(SEND_BACK_DUE) && letter != null) {
                sendBack(letter.from);
            }
            if (takeDue(ACKNOWLEDGE_DUE) && letter != null) {
                sendAppended(letter.from, 1, letter.place, letter.round);
            }
        }

        // Going down and coming up

        void fall(long row) {
            disk.fall(row);
            for (int i = 0; i < waiting.size(); i++) {
                world.spare.add(waiting.get(i));
            }
            waiting.clear();
            beDown();
        }

        void goDown() {
            disk.syncAll();
            postWaiting();
            beDown();
        }

        private void beDown() {
            up = false;
            dirty = false;
            world.hush(id);
            world.hush(SYNC + id);
        }

        void comeUp() {
            disk.find();
            loadLog();
            loadTerm();
            disk.syncAll();
            up = true;
            dirty = false;
            role = FOLLOWS;
            leader = NONE;
            heard = NONE;
            votes = 0;
            pieceBase = NONE;
            got = 0;
            due = 0;
            lead.begin(log.last, world.now);
            requests.dropAll();
            world.drawAlarm(id);
        }

        private void loadLog() {
            log.clear();
            machine.clear();
            if (disk.snapshot != NONE) {
                Page page = disk.pages[disk.snapshot];
                log.moveBase(page.first, page.term, page.more);
                machine.load(page.bytes, page.length);
            }
            log.commit = log.base;
            log.applied = log.base;
            for (int i = 0; i < disk.segments; i++) {
                Page page = disk.pages[disk.chain[i]];
                for (int k = Math.max(0, log.base + 1 - page.first); k < page.count; k++) {
                    log.add(page.rows, k * ROW);
                }
            }
            log.synced = log.last;
        }

        private void loadTerm() {
            boolean found = disk.slot != NONE;
            term = found ? disk.pages[disk.slot].term : 0;
            voted = found ? disk.pages[disk.slot].more : NONE;
            int lastTerm = log.termAt(log.last);
            if (lastTerm > term) {
                term = lastTerm;
                voted = NONE;
                disk.writeSlot(term, voted);
            }
        }

        // Writing and sending

        private void soil() {
            if (!dirty) {
                dirty = true;
                world.setBell(SYNC + id, world.now + world.latency[id]);
            }
        }

        private void saveTerm(int newTerm, int newVoted) {
            term = newTerm;
            voted = newVoted;
            disk.writeSlot(term, voted);
            soil();
        }

        private void append(int[] rows, int at) {
            if (log.length() < ENTRIES) {
                disk.append(rows, at, log.last + 1, log.termAt(log.last));
                log.add(rows, at);
                soil();
            }
        }

        private Letter letterTo(int to, int kind) {
            Letter letter = world.blank();
            letter.from = id;
            letter.to = to;
            letter.kind = kind;
            letter.term = term;
            letter.word = 0;
            letter.count = 0;
            return letter;
        }

        private void dispatch(Letter letter) {
            if (!dirty) {
                world.post(letter);
            } else if (waiting.size() < WAITING) {
                waiting.add(letter);
            } else {
                world.spare.add(letter);
            }
        }

        private void postWaiting() {
            for (int i = 0; i < waiting.size(); i++) {
                world.post(waiting.get(i));
            }
            waiting.clear();
        }

        private void reply(int client, int request, int word, int place, int answerSize) {
            Letter letter = letterTo(client, REPLY);
            letter.term = request;
            letter.word = word;
            letter.place = place;
            letter.fill(machine.out, 0, answerSize);
            dispatch(letter);
        }

        private void sendAppended(int to, int word, int number, int round) {
            Letter letter = letterTo(to, APPENDED);
            letter.word = word;
            letter.place = number;
            letter.round = round;
            dispatch(letter);
        }

        private void sendStored(int to, int base, int size, int round) {
            Letter letter = letterTo(to, STORED);
            letter.place = base;
            letter.size = size;
            letter.round = round;
            dispatch(letter);
        }

        private void sendVote(int to, int kind, int itsTerm, boolean granted) {
            Letter letter = letterTo(to, kind);
            letter.term = itsTerm;
            letter.word = granted ? 1 : 0;
            dispatch(letter);
        }

        private void askVoters(int kind, int itsTerm) {
            int others = voters() & ~(1 << id);
            for (int s = 0; s < SERVERS; s++) {
                if ((others >> s & 1) != 0) {
                    Letter letter = letterTo(s, kind);
                    letter.term = itsTerm;
                    letter.place = log.last;
                    letter.placeTerm = log.termAt(log.last);
                    dispatch(letter);
                }
            }
        }

        private void sendToAll(boolean asBeat) {
            int peers = peers();
            for (int s = 0; s < SERVERS; s++) {
                if ((peers >> s & 1) != 0) {
                    sendTo(s, asBeat);
                }
            }
        }

        private void sendTo(int peer, boolean asBeat) {
            if (lead.next[peer] <= log.base) {
                if (lead.flying[peer] == 0) {
                    lead.flying[peer] = 1;
                    Letter letter = letterTo(peer, PIECE);
                    putPiece(letter, lead.offset[peer]);
                    dispatch(letter);
                }
                return;
            }
            boolean none = true;
            int most = lead.probing[peer] ? 1 : 4;
            while (lead.next[peer] <= log.last && lead.flying[peer] < most) {
                int number = lead.next[peer];
                int entries = Math.min(AT_ONCE, log.last - number + 1);
                lead.flying[peer]++;
                lead.next[peer] = number + entries;
                Letter letter = letterTo(peer, APPEND);
                putEntries(letter, number, entries);
                dispatch(letter);
                none = false;
            }
            if (none && asBeat) {
                Letter letter = letterTo(peer, APPEND);
                putEntries(letter, lead.next[peer], 0);
                dispatch(letter);
            }
        }

        private void putEntries(Letter letter, int number, int entries) {
            letter.place = number - 1;
            letter.placeTerm = log.termAt(number - 1);
            letter.commit = log.commit;
            letter.round = lead.round;
            letter.count = entries;
            if (entries > 0) {
                System.arraycopy(log.rows, log.at(number), letter.rows, 0, entries * ROW);
            }
        }

        private void putPiece(Letter letter, int offset) {
            letter.place = log.base;
            letter.placeTerm = log.baseTerm;
            letter.members = log.baseMembers;
            letter.size = disk.snapshotSize();
            letter.offset = offset;
            letter.round = lead.round;
            if (disk.snapshot != NONE) {
                letter.fill(disk.pages[disk.snapshot].bytes, offset, letter.size - offset);
            }
        }

        // Elections

        private void stepDown(int newTerm, int newLeader) {
            if (newTerm > term) {
                saveTerm(newTerm, NONE);
            }
            if (role == LEADS) {
                world.drawAlarm(id);
                requests.dropAll();
                lead.handing = NONE;
            }
            follow(newLeader);
        }

        private void follow(int newLeader) {
            role = FOLLOWS;
            leader = newLeader;
        }

        /** The alarm rings. */
        void wake() {
            if (role == LEADS) {
                lead.seen[id] = world.now;
                if (Lead.most(lead.seen, log.members) < world.now - 100) {
                    stepDown(term, NONE);
                } else {
                    due |= BEAT_DUE;
                }
                return;
            }
            world.drawAlarm(id);
            if ((voters() >> id & 1) != 0) {
                role = ASKS;
                leader = NONE;
                votes = 1 << id;
                askVoters(PREASK, term + 1);
                if (isMajority(votes)) {
                    due |= CAMPAIGN_DUE;
                }
            }
        }

        private void campaign() {
            role = STANDS;
            leader = NONE;
            saveTerm(term + 1, id);
            votes = 0;
            world.drawAlarm(id);
            askVoters(ASK, term);
        }

        private void takeLead() {
            if (log.length() >= ENTRIES) {
                stepDown(term, NONE);
                return;
            }
            role = LEADS;
            leader = id;
            lead.begin(log.last, world.now);
            append(log.rowOf(term, EMPTY, 0, 0, 0, NONE), 0);
            due |= BEAT_DUE;
        }

        private void beat() {
            if (lead.handing != NONE && world.now - lead.handed > 50) {
                lead.handing = NONE;
            }
            world.setBell(id, world.now + 10);
            lead.round++;
            int peers = peers();
            for (int s = 0; s < SERVERS; s++) {
                if ((peers >> s & 1) != 0 && lead.flying[s] > 0 && !lead.answered[s]) {
                    lead.flying[s] = 0;
                    lead.probing[s] = true;
                    lead.next[s] = lead.match[s] + 1;
                }
                lead.answered[s] = false;
            }
            lead.match[id] = log.synced;
            lead.seen[id] = world.now;
            lead.ack[id] = lead.round;
        }

        void sync() {
            disk.syncAll();
            dirty = false;
            postWaiting();
            log.synced = log.last;
            if (role == STANDS) {
                votes |= 1 << id;
                if (isMajority(votes)) {
                    due |= LEAD_DUE;
                }
            } else if (role == LEADS) {
                lead.match[id] = log.synced;
                due |= COUNT_DUE;
            }
        }

        // What comes

        void receive(Letter letter) {
            if (letter.kind == REQUEST) {
                takeRequest(letter);
                return;
            }
            boolean before = letter.kind == PREASK || (letter.kind == PREANSWER && letter.word == 1);
            if (letter.term > term && !before) {
                stepDown(letter.term, NONE);
            }
            switch (letter.kind) {
                case PREASK: takePreask(letter); break;
                case PREANSWER: takePreanswer(letter); break;
                case ASK: takeAsk(letter); break;
                case ANSWER: takeAnswer(letter); break;
                case APPEND:
                    if (fits(letter)) {
                        takeEntries(letter);
                    }
                    break;
                case APPENDED: takeAppended(letter); break;
                case PIECE: takePiece(letter); break;
                case STORED: takeStored(letter); break;
                case GO: takeGo(letter); break;
                default: break;
            }
        }

        private boolean isAsNew(Letter letter) {
            int own = log.termAt(log.last);
            return letter.placeTerm > own || (letter.placeTerm == own && letter.place >= log.last);
        }

        private void takePreask(Letter letter) {
            boolean granted = letter.term > term && isAsNew(letter) && role != LEADS
                    && (heard == NONE || heard <= world.now - 50);
            sendVote(letter.from, PREANSWER, granted ? letter.term : term, granted);
        }

        private void takePreanswer(Letter letter) {
            if (letter.word == 1 && letter.term == term + 1 && role == ASKS) {
                votes |= 1 << letter.from;
                if (isMajority(votes)) {
                    due |= CAMPAIGN_DUE;
                }
            }
        }

        private void takeAsk(Letter letter) {
            boolean granted = letter.term == term && (voted == NONE || voted == letter.from) && isAsNew(letter);
            if (granted) {
                if (voted != letter.from) {
                    saveTerm(term, letter.from);
                }
                role = FOLLOWS;
                world.drawAlarm(id);
            }
            sendVote(letter.from, ANSWER, term, granted);
        }

        private void takeAnswer(Letter letter) {
            if (letter.word == 1 && letter.term == term && role == STANDS) {
                votes |= 1 << letter.from;
                if (isMajority(votes)) {
                    due |= LEAD_DUE;
                }
            }
        }

        /** Whether it takes an APPEND or PIECE of its term as one of its leader's. */
        private boolean heeds(Letter letter) {
            if (role == LEADS) {
                return false;
            }
            follow(letter.from);
            heard = world.now;
            world.drawAlarm(id);
            return true;
        }

        /** Whether the entry before those told is its own one, too; else it says where to begin. */
        private boolean fits(Letter letter) {
            int before = letter.place;
            if (letter.term < term) {
                sendAppended(letter.from, 0, 0, 0);
            } else if (!heeds(letter)) {
                return false;
            } else if (before > log.last) {
                sendAppended(letter.from, 0, log.last + 1, letter.round);
            } else if (before >= log.base && log.termAt(before) != letter.placeTerm) {
                sendAppended(letter.from, 0, log.runStart(before), letter.round);
            } else {
                return true;
            }
            return false;
        }

        private void takeEntries(Letter letter) {
            int before = letter.place;
            int told = Math.max(0, Math.min(letter.count, log.base + ENTRIES_TOLD - before));
            for (int i = 0; i < told; i++) {
                int number = before + 1 + i;
                if (number >= log.base && number <= log.commit
                        && log.termAt(number) != letter.rows[i * ROW + TERM]) {
                    return;
                }
            }
            int first = 0;
            while (first < told && (before + 1 + first <= log.base
                    || log.termAt(before + 1 + first) == letter.rows[first * ROW + TERM])) {
                first++;
            }
            if (first < told && before + 1 + first <= log.last) {
                log.cutFrom(before + 1 + first);
                disk.cutFrom(before + 1 + first);
            }
            for (int i = first; i < told; i++) {
                append(letter.rows, i * ROW);
            }
            int reached = Math.max(before + told, log.base);
            log.commit = Math.max(log.commit, Math.min(letter.commit, reached));
            // Kept in the letter: APPLYING may move BASE before it is told.
            letter.place = reached;
            due |= APPLY_DUE | ACKNOWLEDGE_DUE;
        }

        private void takePiece(Letter letter) {
            int base = letter.place;
            if (letter.term < term) {
                sendStored(letter.from, base, 0, 0);
                return;
            }
            if (!heeds(letter)) {
                return;
            }
            if (base <= log.commit) {
                sendStored(letter.from, base, letter.size, letter.round);
                return;
            }
            if (letter.offset == 0) {
                pieceBase = base;
                got = 0;
            }
            if (pieceBase == base && letter.offset == got) {
                keepPiece(letter);
                int whole = got;
                if (whole >= letter.size) {
                    takeSnapshot(letter);
                }
                sendStored(letter.from, base, whole, letter.round);
            } else {
                sendStored(letter.from, base, pieceBase == base ? got : 0, letter.round);
            }
        }

        private void keepPiece(Letter letter) {
            if (pieces.length < got + letter.count) {
                pieces = Arrays.copyOf(pieces, 2 * (got + letter.count));
            }
            System.arraycopy(letter.bytes, 0, pieces, got, letter.count);
            got += letter.count;
        }

        private void takeSnapshot(Letter letter) {
            disk.writeSnapshot(letter.place, letter.placeTerm, letter.members, pieces, got);
            log.moveBase(letter.place, letter.placeTerm, letter.members);
            disk.baseMoved(log.base, log.last);
            log.commit = log.base;
            log.applied = log.base;
            machine.load(pieces, got);
            soil();
            pieceBase = NONE;
            got = 0;
        }

        /** Whether an answer is one of a peer to this leader. */
        private boolean hears(Letter letter) {
            if (letter.term != term || role != LEADS || (peers() >> letter.from & 1) == 0) {
                return false;
            }
            lead.seen[letter.from] = world.now;
            lead.answered[letter.from] = true;
            lead.ack[letter.from] = Math.max(lead.ack[letter.from], letter.round);
            due |= COUNT_DUE | READS_DUE | SEND_BACK_DUE;
            return true;
        }

        private void takeAppended(Letter letter) {
            if (!hears(letter)) {
                return;
            }
            int peer = letter.from;
            if (letter.word == 1) {
                int reached = Math.min(letter.place, log.last);
                lead.match[peer] = Math.max(lead.match[peer], reached);
                lead.probing[peer] = false;
                lead.flying[peer] = Math.max(0, lead.flying[peer] - 1);
                lead.next[peer] = Math.max(lead.next[peer], reached + 1);
            } else {
                lead.flying[peer] = 0;
                lead.probing[peer] = true;
                lead.next[peer] = Math.min(Math.max(letter.place, lead.match[peer] + 1), log.last + 1);
            }
        }

        private void takeStored(Letter letter) {
            if (!hears(letter)) {
                return;
            }
            int peer = letter.from;
            lead.flying[peer] = 0;
            if (letter.place != log.base) {
                lead.offset[peer] = 0;
            } else if (letter.size >= disk.snapshotSize()) {
                lead.match[peer] = Math.max(lead.match[peer], log.base);
                lead.next[peer] = log.base + 1;
                lead.probing[peer] = true;
                lead.offset[peer] = 0;
            } else {
                lead.offset[peer] = letter.size;
            }
        }

        private void takeGo(Letter letter) {
            if (letter.term == term && (role == FOLLOWS || role == ASKS) && (voters() >> id & 1) != 0) {
                due |= CAMPAIGN_DUE;
            }
        }

        private void takeRequest(Letter letter) {
            if (role != LEADS || lead.handing != NONE) {
                reply(letter.from, letter.term, ELSEWHERE, role == LEADS ? lead.handing : leader, 0);
            } else if (letter.word == TO_READ) {
                int number = log.termAt(log.commit) == term ? log.commit : lead.first;
                requests.begin(letter, number, term, lead.round + 1);
            } else if (log.length() >= ENTRIES_BUSY) {
                reply(letter.from, letter.term, BUSY, NONE, 0);
            } else {
                append(log.rowOf(term, COMMAND, letter.size, letter.session, letter.serial, letter.asking), 0);
                requests.begin(letter, log.last, term, NONE);
                due |= SEND_ALL_DUE;
            }
        }

        // What a leader does

        private void sendBack(int peer) {
            if (role != LEADS || (peers() >> peer & 1) == 0) {
                return;
            }
            sendTo(peer, false);
            if (lead.handing == peer && lead.match[peer] == log.last) {
                dispatch(letterTo(peer, GO));
            }
        }

        private void countMatches() {
            if (role != LEADS) {
                return;
            }
            int number = Lead.most(lead.match, log.members);
            if (number > log.commit && log.termAt(number) == term) {
                log.commit = number;
                due |= APPLY_DUE;
            }
            due |= MEMBERS_DUE;
        }

        private void moveMembers() {
            if (log.membersAt > log.commit) {
                return;
            }
            int coming = log.members >> 7 & ALL_SERVERS;
            if (coming != 0) {
                if (log.length() < ENTRIES) {
                    append(log.rowOf(term, MEMBERS, 4, coming | log.members >> 14 << 14, 0, NONE), 0);
                    due |= SEND_ALL_DUE;
                }
            } else if ((log.members >> id & 1) == 0) {
                stepDown(term, NONE);
            }
        }

        private void apply() {
            for (int number = log.applied + 1; number <= log.commit && log.has(number); number++) {
                log.applied = number;
                int at = log.at(number);
                int slot = requests.waitsFor(number);
                boolean answers = slot != NONE && requests.term[slot] == log.rows[at + TERM];
                if (slot != NONE) {
                    requests.drop(slot);
                }
                if (log.rows[at + KIND] == COMMAND) {
                    int session = machine.admit(number, log.rows, at);
                    if (session != NONE) {
                        machine.operate(session, log.rows[at + SERIAL], log.rows[at + ASKING]);
                    }
                    if (answers && machine.came != NOTHING) {
                        reply(requests.client[slot], requests.request[slot], machine.came, machine.cameAt,
                                machine.outSize);
                    }
                }
            }
        }

        private void answerReads() {
            if (role != LEADS || requests.alive == 0) {
                return;
            }
            int acknowledged = Lead.most(lead.ack, log.members);
            for (int k = Math.max(0, requests.begun - WAITING); k < requests.begun; k++) {
                int slot = Requests.slotOf(k);
                boolean reads = requests.live[slot] && requests.round[slot] != NONE;
                if (reads && requests.number[slot] <= log.applied && requests.round[slot] <= acknowledged) {
                    requests.drop(slot);
                    machine.look(requests.asking[slot]);
                    reply(requests.client[slot], requests.request[slot], DONE, log.applied, machine.outSize);
                }
            }
        }

        private void compact() {
            if (log.applied - log.base < ENTRIES_COMPACT) {
                return;
            }
            int itsTerm = log.termAt(log.applied);
            int code = log.membersUpTo(log.applied);
            int size = machine.save();
            disk.writeSnapshot(log.applied, itsTerm, code, machine.saved, size);
            log.moveBase(log.applied, itsTerm, code);
            disk.baseMoved(log.base, log.last);
            soil();
            Arrays.fill(lead.offset, 0);
        }

        // What its owner asks for

        boolean mayLead() {
            return up && role == LEADS && lead.handing == NONE;
        }

        boolean maySetMembers() {
            return mayLead() && log.length() < ENTRIES_BUSY && log.membersAt <= log.commit
                    && (log.members >> 7 & ALL_SERVERS) == 0;
        }

        /** Whether each of the set votes already, or has learned all that is agreed. */
        boolean areKnown(int set) {
            int old = log.members & ALL_SERVERS;
            int learning = log.members >> 14;
            for (int s = 0; s < SERVERS; s++) {
                boolean learned = (learning >> s & 1) != 0 && lead.match[s] >= log.commit;
                if ((set >> s & 1) != 0 && (old >> s & 1) == 0 && !learned) {
                    return false;
                }
            }
            return true;
        }

        void setMembers(int code) {
            append(log.rowOf(term, MEMBERS, 4, code, 0, NONE), 0);
            sendToAll(false);
        }

        void handOver(int to) {
            lead.handing = to;
            lead.handed = world.now;
            if (lead.match[to] == log.last) {
                dispatch(letterTo(to, GO));
            } else {
                sendTo(to, false);
            }
        }
    }

    /** A client: what it waits for, and the session in which it asks. */
    private static final class Client {
        final int id;
        final World world;
        final Askings askings;
        boolean waits;
        int target;
        int session = NONE;
        int serial;
        int request;
        int tries;
        int asking = NONE;
        /** Whether it requests OPEN, before what it was asked. */
        boolean opening;
        boolean impatient;
        final byte[] told = new byte[ANSWER_SIZE];
        int toldSize;

        Client(int id, World world, Askings askings) {
            this.id = id;
            this.world = world;
            this.askings = askings;
        }

        void begin(int newAsking) {
            waits = true;
            asking = newAsking;
            tries = 0;
            opening = isCommand() && session == NONE;
            if (isCommand() && !opening) {
                serial++;
            }
            request++;
            sendRequest();
        }

        private boolean isCommand() {
            return askings.tell(asking, Askings.WHAT) <= REMOVE;
        }

        private void sendRequest() {
            tries++;
            if (tries > 40) {
                giveIn();
                return;
            }
            Letter letter = world.blank();
            letter.from = id;
            letter.to = target;
            letter.kind = REQUEST;
            letter.term = request;
            letter.word = opening ? TO_OPEN : isCommand() ? TO_DO : TO_READ;
            letter.session = opening ? 0 : session;
            letter.serial = opening ? 0 : serial;
            letter.asking = opening ? NONE : asking;
            letter.size = opening ? 2 : 12 + askings.tell(asking, Askings.LENGTH);
            letter.count = 0;
            world.post(letter);
            setAlarm(60, true);
        }

        private void setAlarm(int ticks, boolean isImpatient) {
            world.setBell(id, world.now + ticks);
            impatient = isImpatient;
        }

        private void turnToNext() {
            target = target + 1 < SERVERS ? target + 1 : 0;
        }

        void wake() {
            if (impatient) {
                turnToNext();
            }
            sendRequest();
        }

        void hear(Letter letter) {
            if (!waits || letter.term != request) {
                return;
            }
            switch (letter.word) {
                case DONE: hearDone(letter); break;
                case ELSEWHERE: hearElsewhere(letter.place); break;
                case UNKNOWN: giveIn(); break;
                default: setAlarm(20, false); break;
            }
        }

        private void hearDone(Letter letter) {
            if (opening) {
                opening = false;
                session = letter.place;
                serial = 1;
                request++;
                sendRequest();
                return;
            }
            toldSize = Math.min(letter.count, told.length);
            System.arraycopy(letter.bytes, 0, told, 0, toldSize);
            beTold(TOLD_DONE, letter.place);
        }

        private void hearElsewhere(int server) {
            if (server >= 0 && server < SERVERS) {
                target = server;
                sendRequest();
            } else {
                turnToNext();
                setAlarm(5, false);
            }
        }

        void giveIn() {
            if (isCommand()) {
                session = NONE;
                beTold(TOLD_UNCLEAR, NONE);
            } else {
                beTold(TOLD_GIVEN_UP, NONE);
            }
        }

        private void beTold(int what, int place) {
            waits = false;
            opening = false;
            impatient = false;
            world.hush(id);
            askings.setTold(asking, what, place);
        }
    }

    /** All that was asked, with the bytes that it was asked with: an entry or a request names its asking. */
    private static final class Askings {
        private static final int COLUMNS = 10;
        static final int WHAT = 1;
        private static final int MOMENT = 2;
        private static final int TOLD_AT = 3;
        private static final int TOLD = 4;
        private static final int PLACE = 5;
        static final int FROM = 6;
        static final int FIRST = 7;
        static final int SECOND = 8;
        static final int LENGTH = 9;

        int size;
        int moments;
        int[] rows = new int[64 * COLUMNS];
        byte[] bytes = new byte[2048];
        int used;

        int add(int client, int kind, int k, int v) {
            int row = size * COLUMNS;
            if (rows.length < row + COLUMNS) {
                rows = Arrays.copyOf(rows, 2 * (row + COLUMNS));
            }
            rows[row] = client;
            rows[row + WHAT] = kind;
            rows[row + MOMENT] = moments;
            rows[row + TOLD_AT] = NONE;
            rows[row + TOLD] = 0;
            rows[row + PLACE] = NONE;
            rows[row + FROM] = used;
            rows[row + FIRST] = k;
            rows[row + SECOND] = v;
            rows[row + LENGTH] = 0;
            moments++;
            size++;
            return size - 1;
        }

        void addBytes(int asking, byte[] source, int length) {
            if (bytes.length < used + length) {
                bytes = Arrays.copyOf(bytes, 2 * (used + length));
            }
            System.arraycopy(source, 0, bytes, used, length);
            used += length;
            rows[asking * COLUMNS + LENGTH] = length;
        }

        int tell(int asking, int column) {
            return asking < 0 || asking >= size ? 0 : rows[asking * COLUMNS + column];
        }

        void setTold(int asking, int what, int place) {
            int row = asking * COLUMNS;
            rows[row + TOLD_AT] = moments;
            rows[row + TOLD] = what;
            rows[row + PLACE] = place;
            moments++;
        }
    }
}
