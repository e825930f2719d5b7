import java.util.ArrayList;
import java.util.Arrays;
import java.util.List;
import java.util.TreeMap;

/**
 * The document once more, written as literally as it goes and without regard to speed: files are real bytes with
 * real frames, one thing that follows from another is called where the text says so, nothing is used twice.
 * Runs of random calls are answered by it and by AgreedStore, and compared.
 */
final class Model {
    static final int NONE = -1;
    static final int NEVER = Integer.MIN_VALUE / 2;

    // ---- time and events

    static final class Event {
        int time;
        int number;
        int whose;
        boolean sync;
        Message message;
    }

    static final class Message {
        int from;
        int to;
        int kind;
        int term;
        int[] numbers = {};
        List<Entry> entries = new ArrayList<>();
        byte[] bytes = {};
        Op op;
    }

    static final class Entry {
        final int term;
        final int kind;
        final byte[] content;

        Entry(int term, int kind, byte[] content) {
            this.term = term;
            this.kind = kind;
            this.content = content;
        }
    }

    /** What was asked. */
    static final class Op {
        int kind;
        byte[] key = {};
        byte[] expected = {};
        byte[] value = {};
    }

    static long lcg(long x) {
        return x * 6364136223846793005L + 1442695040888963407L;
    }

    int now;
    int madeEvents;
    final List<Event> events = new ArrayList<>();
    int happened;
    int everOnWay;
    int lost;
    final int[][] delays = new int[16][16];
    int partedOff;
    int loss;
    int twice;
    int spread;
    long draw;
    final Srv[] servers = new Srv[7];
    final Cli[] clients = new Cli[8];
    byte[] tape = {};
    byte[] result = {};
    int moments;
    final List<int[]> history = new ArrayList<>();

    Event make(int time, int whose, boolean sync, Message m) {
        Event e = new Event();
        e.time = time;
        e.number = madeEvents++;
        e.whose = whose;
        e.sync = sync;
        e.message = m;
        events.add(e);
        return e;
    }

    static boolean before(Event a, Event b) {
        return a.time != b.time ? a.time < b.time : a.number < b.number;
    }

    List<Event> messages() {
        List<Event> all = new ArrayList<>();
        for (Event e : events) {
            if (e.message != null) {
                all.add(e);
            }
        }
        all.sort((a, b) -> before(a, b) ? -1 : 1);
        return all;
    }

    void noAlarm(int endpoint) {
        events.removeIf(e -> e.message == null && !e.sync && e.whose == endpoint);
    }

    void noSync(int server) {
        events.removeIf(e -> e.sync && e.whose == server);
    }

    void alarm(int endpoint, int time) {
        noAlarm(endpoint);
        make(time, endpoint, false, null);
    }

    boolean parted(int a, int b) {
        return (partedOff >> a & 1) != (partedOff >> b & 1);
    }

    int drawMod(int m) {
        draw = lcg(draw);
        return (int) ((draw >>> 33) % m);
    }

    void onItsWay(Message m, int time) {
        if (messages().size() == 128) {
            lost++;
        } else {
            everOnWay++;
            make(time, m.to, false, m);
        }
    }

    void send(Message m) {
        if (parted(m.from, m.to)) {
            lost++;
            return;
        }
        int delay = delays[m.from][m.to];
        if (loss == 0 && twice == 0 && spread == 0) {
            onItsWay(m, now + delay);
            return;
        }
        if (drawMod(1000) < loss) {
            lost++;
            return;
        }
        int times = drawMod(1000) < twice ? 2 : 1;
        for (int i = 0; i < times; i++) {
            onItsWay(m, now + delay + drawMod(spread + 1));
        }
    }

    int stepTo(long until) {
        Event first = null;
        for (Event e : events) {
            if (first == null || before(e, first)) {
                first = e;
            }
        }
        if (first == null || first.time > until) {
            return NONE;
        }
        events.remove(first);
        now = first.time;
        happened++;
        if (first.sync) {
            servers[first.whose].sync();
            return 16 + first.whose;
        }
        if (first.message == null) {
            if (first.whose < 8) {
                servers[first.whose].alarmRings();
            } else {
                clients[first.whose - 8].alarmRings();
            }
            return first.whose;
        }
        Message m = first.message;
        if (parted(m.from, m.to) || (m.to < 8 && !servers[m.to].up)) {
            lost++;
        } else if (m.to >= 8) {
            clients[m.to - 8].reply(m);
        } else if (m.kind == 10) {
            servers[m.to].request(m);
        } else {
            servers[m.to].letter(m);
        }
        return m.to;
    }

    // ---- disks

    static byte[] number4(int... all) {
        byte[] b = new byte[4 * all.length];
        for (int i = 0; i < b.length; i++) {
            b[i] = (byte) (all[i / 4] >>> 24 - 8 * (i % 4));
        }
        return b;
    }

    static int at4(byte[] b, int at) {
        return (b[at] & 255) << 24 | (b[at + 1] & 255) << 16 | (b[at + 2] & 255) << 8 | b[at + 3] & 255;
    }

    static byte[] join(byte[]... parts) {
        int n = 0;
        for (byte[] p : parts) {
            n += p.length;
        }
        byte[] all = new byte[n];
        n = 0;
        for (byte[] p : parts) {
            System.arraycopy(p, 0, all, n, p.length);
            n += p.length;
        }
        return all;
    }

    /** The frame's head tells its bytes' number and their check. */
    static byte[] frame(byte[] bytes) {
        return join(number4(bytes.length, Arrays.hashCode(bytes)), bytes);
    }

    /** The bytes of the frame there, or null when it is not whole. */
    static byte[] unframe(byte[] file, int at) {
        if (at + 8 > file.length) {
            return null;
        }
        int n = at4(file, at);
        if (n < 0 || at + 8 + n > file.length) {
            return null;
        }
        byte[] b = Arrays.copyOfRange(file, at + 8, at + 8 + n);
        return Arrays.hashCode(b) == at4(file, at + 4) ? b : null;
    }

    static final class FileOf {
        byte[] now;
        byte[] synced;
        int low;

        int size() {
            return now == null ? 0 : now.length;
        }

        void sync() {
            synced = now;
            low = size();
        }

        void cut(int n) {
            now = now == null ? new byte[0] : Arrays.copyOf(now, Math.min(n, now.length));
            low = Math.min(low, now.length);
        }

        void append(byte[] b) {
            now = join(now == null ? new byte[0] : now, b);
        }

        void remove() {
            now = null;
            low = 0;
        }

        void crash(int keep) {
            if (keep == 0) {
                now = synced;
            } else if (now != null && now.length > low + keep - 1) {
                now = Arrays.copyOf(now, low + keep - 1);
            }
            sync();
        }
    }

    // ---- the machine

    static final class Session {
        int number;
        int used;
        int serial;
        byte[] answer = {};
        int place;
    }

    static int unsigned(byte[] a, byte[] b) {
        for (int i = 0; i < a.length && i < b.length; i++) {
            if (a[i] != b[i]) {
                return (a[i] & 255) - (b[i] & 255);
            }
        }
        return a.length - b.length;
    }

    static final class Came {
        boolean unknown;
        byte[] answer = {};
        int place;
    }

    static final class Mach {
        final TreeMap<Integer, Session> sessions = new TreeMap<>();
        final TreeMap<byte[], byte[]> map = new TreeMap<>(Model::unsigned);

        int units() {
            int n = 0;
            for (byte[] k : map.keySet()) {
                n += (k.length + map.get(k).length + 15) / 16;
            }
            return n;
        }

        Came open(int place) {
            if (sessions.size() == 16) {
                Session oldest = null;
                for (Session s : sessions.values()) {
                    if (oldest == null || s.used < oldest.used) {
                        oldest = s;
                    }
                }
                sessions.remove(oldest.number);
            }
            Session s = new Session();
            s.number = place;
            s.used = place;
            sessions.put(place, s);
            Came c = new Came();
            c.place = place;
            return c;
        }

        Came doIt(int place, int session, int serial, Op op) {
            Came c = new Came();
            Session s = sessions.get(session);
            if (s == null) {
                c.unknown = true;
                return c;
            }
            s.used = place;
            if (serial < s.serial) {
                return null;
            }
            if (serial > s.serial) {
                s.serial = serial;
                s.answer = operate(op);
                s.place = place;
            }
            c.answer = s.answer;
            c.place = s.place;
            return c;
        }

        boolean tooMany(byte[] key, byte[] value) {
            byte[] old = map.put(key, value);
            boolean tooMany = map.size() > 128 || units() > 700;
            if (old == null) {
                map.remove(key);
            } else {
                map.put(key, old);
            }
            return tooMany;
        }

        byte[] operate(Op op) {
            byte[] old = map.get(op.key);
            if (op.kind == 0) {
                if (tooMany(op.key, op.value)) {
                    return new byte[] {2};
                }
                map.put(op.key, op.value);
                return old == null ? new byte[] {0} : join(new byte[] {1}, old);
            }
            if (op.kind == 2) {
                map.remove(op.key);
                return old == null ? new byte[] {0} : join(new byte[] {1}, old);
            }
            if (old == null) {
                return new byte[] {3};
            }
            if (!Arrays.equals(old, op.expected)) {
                return join(new byte[] {0}, old);
            }
            if (tooMany(op.key, op.value)) {
                return new byte[] {2};
            }
            map.put(op.key, op.value);
            return new byte[] {1};
        }

        byte[] read(Op op) {
            if (op.kind == 3) {
                byte[] v = map.get(op.key);
                return v == null ? new byte[] {0} : join(new byte[] {1}, v);
            }
            if (op.kind == 4) {
                int n = 0;
                for (byte[] k : map.keySet()) {
                    if (unsigned(k, op.key) >= 0 && unsigned(k, op.value) < 0) {
                        n++;
                    }
                }
                return new byte[] {(byte) n, (byte) (n >> 8)};
            }
            byte[] k = map.ceilingKey(op.key);
            return k == null ? new byte[] {0} : join(new byte[] {1, (byte) k.length}, k, map.get(k));
        }

        byte[] snapshot() {
            byte[] b = number4(sessions.size());
            for (Session s : sessions.values()) {
                b = join(b, number4(s.number, s.used, s.serial, s.place),
                        new byte[] {(byte) (s.answer.length >> 8), (byte) s.answer.length}, s.answer);
            }
            b = join(b, number4(map.size()));
            for (byte[] k : map.keySet()) {
                byte[] v = map.get(k);
                b = join(b, new byte[] {(byte) k.length, 0, (byte) v.length}, k, v);
            }
            return b;
        }

        static Mach of(byte[] b) {
            Mach m = new Mach();
            if (b.length == 0) {
                return m;
            }
            int at = 4;
            for (int i = at4(b, 0); i > 0; i--) {
                Session s = new Session();
                s.number = at4(b, at);
                s.used = at4(b, at + 4);
                s.serial = at4(b, at + 8);
                s.place = at4(b, at + 12);
                int n = (b[at + 16] & 255) << 8 | b[at + 17] & 255;
                s.answer = Arrays.copyOfRange(b, at + 18, at + 18 + n);
                at += 18 + n;
                m.sessions.put(s.number, s);
            }
            int n = at4(b, at);
            at += 4;
            for (int i = 0; i < n; i++) {
                int k = b[at];
                int v = b[at + 2];
                at += 3;
                m.map.put(Arrays.copyOfRange(b, at, at + k), Arrays.copyOfRange(b, at + k, at + k + v));
                at += k + v;
            }
            return m;
        }
    }

    // ---- servers

    static final class Waiter {
        int client;
        int request;
        Op read;
        int number;
        int round;
        int term;
        boolean waits = true;
    }

    final class Srv {
        final int itself;
        final int firstMembers;
        long row;
        int latency = 2;
        boolean up = true;
        // the disk
        final FileOf[] files = new FileOf[16];
        final List<Integer> segments = new ArrayList<>();
        int slotWritten = NONE;
        boolean slotSinceSync;
        int slotWritings;
        int snapshotFile = NONE;
        // what is on it
        int term;
        int voted = NONE;
        final List<Entry> log = new ArrayList<>();
        int base;
        int baseTerm;
        int baseMembers;
        byte[] snapshot = {};
        boolean dirty;
        final List<Message> waitingLetters = new ArrayList<>();
        // besides
        int role;
        int leader = NONE;
        int commit;
        int applied;
        int synced;
        int heard = NEVER;
        int votes;
        int handing = NONE;
        int handingSet;
        Mach machine = new Mach();
        int first;
        int round;
        final int[] next = new int[7];
        final int[] match = new int[7];
        final int[] flying = new int[7];
        final int[] offset = new int[7];
        final int[] ack = new int[7];
        final int[] seen = new int[7];
        final boolean[] probing = new boolean[7];
        final boolean[] answered = new boolean[7];
        final List<Waiter> everWaited = new ArrayList<>();
        boolean assembly;
        int assemblyBase;
        byte[] assembled = {};

        Srv(int itself, int firstMembers, long row) {
            this.itself = itself;
            this.firstMembers = firstMembers;
            this.baseMembers = firstMembers;
            this.row = row + itself;
            for (int f = 0; f < 16; f++) {
                files[f] = new FileOf();
            }
        }

        int last() {
            return base + log.size();
        }

        Entry entry(int i) {
            return log.get(i - base - 1);
        }

        int termOf(int i) {
            return i == base ? baseTerm : entry(i).term;
        }

        int lastTerm() {
            return termOf(last());
        }

        /** The number of the last entry of kind MEMBERS up to one, or BASE. */
        int membersAt(int upTo) {
            for (int i = upTo; i > base; i--) {
                if (entry(i).kind == 1) {
                    return i;
                }
            }
            return base;
        }

        int membersCode(int upTo) {
            int at = membersAt(upTo);
            return at == base ? baseMembers : at4(entry(at).content, 0);
        }

        int code() {
            return membersCode(last());
        }

        int old() {
            return code() % 128;
        }

        int newer() {
            return code() / 128 % 128;
        }

        int learnerSet() {
            return code() / 16384;
        }

        boolean voter(int s) {
            return ((old() | newer()) >> s & 1) == 1;
        }

        boolean peer(int s) {
            return s != itself && ((old() | newer() | learnerSet()) >> s & 1) == 1;
        }

        boolean isMajority(int set) {
            return moreThanHalf(set, old()) && (newer() == 0 || moreThanHalf(set, newer()));
        }

        boolean moreThanHalf(int set, int of) {
            return Integer.bitCount(set & of) * 2 > Integer.bitCount(of);
        }

        int whatMajorityHas(int[] numbers) {
            int best = Integer.MIN_VALUE;
            for (int candidate : numbers) {
                int set = 0;
                for (int s = 0; s < 7; s++) {
                    if (numbers[s] >= candidate) {
                        set |= 1 << s;
                    }
                }
                if (isMajority(set)) {
                    best = Math.max(best, candidate);
                }
            }
            return best;
        }

        // -- writes

        void write() {
            if (!dirty) {
                dirty = true;
                noSync(itself);
                make(now + latency, itself, true, null);
            }
        }

        void writeSlot() {
            int f = slotWritten != NONE && slotSinceSync ? slotWritten : slotWritten == NONE ? 1 : 1 - slotWritten;
            files[f].cut(0);
            files[f].low = 0;
            files[f].append(frame(join(number4(++slotWritings, 0, term, voted), new byte[8])));
            slotWritten = f;
            slotSinceSync = true;
        }

        void setTerm(int t, int v) {
            term = t;
            voted = v;
            writeSlot();
            write();
        }

        void writeSnapshot() {
            snapshotFile = snapshotFile == NONE ? 2 : 5 - snapshotFile;
            FileOf f = files[snapshotFile];
            f.cut(0);
            f.append(frame(number4(base, baseTerm, baseMembers)));
            f.append(snapshot);
            f.sync();
        }

        byte[] entryBytes(Entry e) {
            // Seventeen bytes before the content: as many as the document gives them.
            return join(number4(e.term, e.kind, 0, 0), new byte[1], e.content);
        }

        void append(Entry e) {
            int f = segments.isEmpty() ? NONE : segments.get(segments.size() - 1);
            if (f == NONE || files[f].size() > 8000) {
                f = 4;
                while (files[f].now != null) {
                    f++;
                }
                files[f].now = new byte[0];
                files[f].append(frame(number4(last() + 1, lastTerm(), 0, 0)));
                segments.add(f);
            }
            files[f].append(frame(entryBytes(e)));
            log.add(e);
            write();
        }

        int firstOf(int f) {
            return at4(unframe(files[f].now, 0), 0);
        }

        /** Where the frames of entries begin, and where the last whole one ends. */
        List<Integer> frames(int f) {
            List<Integer> at = new ArrayList<>();
            int here = 24;
            at.add(here);
            for (byte[] b = unframe(files[f].now, here); b != null; b = unframe(files[f].now, here)) {
                here += 8 + b.length;
                at.add(here);
            }
            return at;
        }

        void cutLogFrom(int i) {
            for (int k = segments.size() - 1; k >= 0; k--) {
                int f = segments.get(k);
                List<Integer> at = frames(f);
                int begins = firstOf(f);
                if (begins >= i) {
                    files[f].remove();
                    segments.remove(k);
                } else if (i < begins + at.size() - 1) {
                    files[f].cut(at.get(i - begins));
                }
            }
            while (last() >= i) {
                log.remove(log.size() - 1);
            }
            synced = Math.min(synced, last());
        }

        void segmentsAfterBaseMoved() {
            for (int k = segments.size() - 1; k >= 0; k--) {
                int f = segments.get(k);
                int lastOfIt = firstOf(f) + frames(f).size() - 2;
                boolean isLast = k == segments.size() - 1;
                if (log.isEmpty()) {
                    files[f].remove();
                } else if (!isLast && lastOfIt <= base) {
                    files[f].remove();
                }
            }
            segments.removeIf(f -> files[f].now == null);
        }

        void syncAll() {
            for (FileOf f : files) {
                f.sync();
            }
            slotSinceSync = false;
        }

        // -- what is found

        void find() {
            slotWritten = NONE;
            int writing = NONE;
            term = 0;
            voted = NONE;
            for (int f = 0; f < 2; f++) {
                byte[] b = files[f].now == null ? null : unframe(files[f].now, 0);
                if (b != null && at4(b, 0) > writing) {
                    writing = at4(b, 0);
                    slotWritten = f;
                    term = at4(b, 8);
                    voted = at4(b, 12);
                }
            }
            slotSinceSync = false;
            findSnapshot();
            findLog();
            if (lastTerm() > term) {
                term = lastTerm();
                voted = NONE;
                writeSlot();
            }
            syncAll();
        }

        void findSnapshot() {
            snapshotFile = NONE;
            base = 0;
            baseTerm = 0;
            baseMembers = firstMembers;
            snapshot = new byte[0];
            for (int f = 2; f < 4; f++) {
                byte[] b = files[f].now == null ? null : unframe(files[f].now, 0);
                if (b != null && at4(b, 0) > base) {
                    base = at4(b, 0);
                    baseTerm = at4(b, 4);
                    baseMembers = at4(b, 8);
                    snapshot = Arrays.copyOfRange(files[f].now, 20, files[f].now.length);
                    snapshotFile = f;
                }
            }
        }

        List<Entry> entriesOf(int f) {
            List<Entry> all = new ArrayList<>();
            List<Integer> at = frames(f);
            for (int k = 0; k + 1 < at.size(); k++) {
                byte[] b = unframe(files[f].now, at.get(k));
                all.add(new Entry(at4(b, 0), at4(b, 4), Arrays.copyOfRange(b, 17, b.length)));
            }
            return all;
        }

        void findLog() {
            segments.clear();
            log.clear();
            int start = NONE;
            for (int f = 4; f < 16; f++) {
                boolean whole = files[f].now != null && unframe(files[f].now, 0) != null;
                if (whole && firstOf(f) <= base + 1 && (start == NONE || firstOf(f) > firstOf(start))) {
                    start = f;
                }
            }
            List<Entry> all = new ArrayList<>();
            int from = 0;
            int before = 0;
            if (start != NONE) {
                from = firstOf(start);
                before = at4(unframe(files[start].now, 0), 4);
                int f = start;
                while (f != NONE) {
                    segments.add(f);
                    List<Entry> its = entriesOf(f);
                    all.addAll(its);
                    f = NONE;
                    for (int g = 15; g >= 4 && !its.isEmpty(); g--) {
                        byte[] b = files[g].now == null ? null : unframe(files[g].now, 0);
                        if (b != null && at4(b, 0) == from + all.size()
                                && at4(b, 4) == all.get(all.size() - 1).term) {
                            f = g;
                        }
                    }
                }
            }
            int lastFound = from + all.size() - 1;
            boolean none = start == NONE || base > lastFound || base < from - 1;
            if (!none) {
                none = (base == from - 1 ? before : all.get(base - from).term) != baseTerm;
            }
            if (none) {
                segments.clear();
            } else {
                log.addAll(all.subList(base - from + 1, all.size()));
            }
            for (int f = 4; f < 16; f++) {
                if (files[f].now != null) {
                    if (segments.contains(f)) {
                        List<Integer> at = frames(f);
                        files[f].cut(at.get(at.size() - 1));
                    } else {
                        files[f].remove();
                    }
                }
            }
        }

        // -- letters

        void drawAlarm() {
            row = lcg(row);
            alarm(itself, now + 50 + (int) ((row >>> 33) % 50));
        }

        void sendLetter(Message m) {
            if (dirty) {
                if (waitingLetters.size() < 32) {
                    waitingLetters.add(m);
                }
            } else {
                send(m);
            }
        }

        Message letterTo(int to, int kind, int itsTerm, int... numbers) {
            Message m = new Message();
            m.from = itself;
            m.to = to;
            m.kind = kind;
            m.term = itsTerm;
            m.numbers = numbers;
            return m;
        }

        void tell(int to, int kind, int... numbers) {
            sendLetter(letterTo(to, kind, term, numbers));
        }

        void replyTo(int client, int request, int what, int place, byte[] answer) {
            Message m = letterTo(client, 11, request, what, place);
            m.bytes = answer;
            sendLetter(m);
        }

        void alarmRings() {
            if (role == 3) {
                seen[itself] = now;
                if (whatMajorityHas(seen) < now - 100) {
                    stepDown(term, NONE);
                } else {
                    beats();
                }
                return;
            }
            drawAlarm();
            if (voter(itself)) {
                role = 1;
                leader = NONE;
                votes = 1 << itself;
                for (int s = 0; s < 7; s++) {
                    if (s != itself && voter(s)) {
                        sendLetter(letterTo(s, 1, term + 1, last(), lastTerm()));
                    }
                }
                if (isMajority(votes)) {
                    campaigns();
                }
            }
        }

        void stepDown(int t, int l) {
            if (t > term) {
                setTerm(t, NONE);
            }
            if (role == 3) {
                drawAlarm();
                for (Waiter w : everWaited) {
                    w.waits = false;
                }
                handing = NONE;
            }
            role = 0;
            leader = l;
        }

        boolean asNew(int n, int t) {
            return t > lastTerm() || (t == lastTerm() && n >= last());
        }

        void letter(Message m) {
            boolean excepted = m.kind == 1 || (m.kind == 2 && m.numbers[0] == 1);
            if (m.term > term && !excepted) {
                stepDown(m.term, NONE);
            }
            switch (m.kind) {
                case 1: {
                    boolean grants = m.term > term && asNew(m.numbers[0], m.numbers[1]) && role != 3
                            && (heard == NEVER || heard <= now - 50);
                    sendLetter(letterTo(m.from, 2, grants ? m.term : term, grants ? 1 : 0));
                    break;
                }
                case 2:
                    if (m.numbers[0] == 1 && m.term == term + 1 && role == 1) {
                        votes |= 1 << m.from;
                        if (isMajority(votes)) {
                            campaigns();
                        }
                    }
                    break;
                case 3: {
                    boolean grants = m.term == term && (voted == NONE || voted == m.from)
                            && asNew(m.numbers[0], m.numbers[1]);
                    if (grants) {
                        if (voted != m.from) {
                            setTerm(term, m.from);
                        }
                        role = 0;
                        drawAlarm();
                    }
                    tell(m.from, 4, grants ? 1 : 0);
                    break;
                }
                case 4:
                    if (m.numbers[0] == 1 && m.term == term && role == 2) {
                        votes |= 1 << m.from;
                        if (isMajority(votes)) {
                            leads();
                        }
                    }
                    break;
                case 5:
                case 7:
                    fromLeader(m);
                    break;
                case 6:
                case 8:
                    toLeader(m);
                    break;
                default:
                    if (m.term == term && (role == 0 || role == 1) && voter(itself)) {
                        campaigns();
                    }
                    break;
            }
        }

        void fromLeader(Message m) {
            if (m.term < term) {
                if (m.kind == 5) {
                    tell(m.from, 6, 0, 0, 0);
                } else {
                    tell(m.from, 8, m.numbers[0], 0, 0);
                }
                return;
            }
            if (role == 3) {
                return;
            }
            stepDown(term, m.from);
            heard = now;
            drawAlarm();
            if (m.kind == 5) {
                append(m);
            } else {
                piece(m);
            }
        }

        void append(Message m) {
            int p = m.numbers[0];
            int roundTold = m.numbers[3];
            if (p > last()) {
                tell(m.from, 6, 0, last() + 1, roundTold);
                return;
            }
            if (p >= base && termOf(p) != m.numbers[1]) {
                int h = p;
                if (p == base) {
                    h = base + 1;
                } else {
                    while (h - 1 > base && termOf(h - 1) == termOf(p)) {
                        h--;
                    }
                }
                tell(m.from, 6, 0, h, roundTold);
                return;
            }
            List<Entry> told = new ArrayList<>();
            for (Entry e : m.entries) {
                if (p + told.size() + 1 <= base + 250) {
                    told.add(e);
                } else {
                    break;
                }
            }
            for (int k = 0; k < told.size(); k++) {
                int i = p + 1 + k;
                if (i >= base && i <= commit && termOf(i) != told.get(k).term) {
                    return;
                }
            }
            boolean writing = false;
            for (int k = 0; k < told.size(); k++) {
                int i = p + 1 + k;
                if (!writing && (i <= base || (i <= last() && termOf(i) == told.get(k).term))) {
                    continue;
                }
                if (!writing && i <= last()) {
                    cutLogFrom(i);
                }
                writing = true;
                append(told.get(k));
            }
            int reached = Math.max(p + told.size(), base);
            commit = Math.max(commit, Math.min(m.numbers[2], reached));
            applies();
            tell(m.from, 6, 1, reached, roundTold);
        }

        void piece(Message m) {
            int b = m.numbers[0];
            int size = m.numbers[3];
            int from = m.numbers[4];
            int roundTold = m.numbers[5];
            if (b <= commit) {
                tell(m.from, 8, b, size, roundTold);
                return;
            }
            if (from == 0) {
                assembly = true;
                assemblyBase = b;
                assembled = new byte[0];
            }
            if (!assembly || assemblyBase != b || from != assembled.length) {
                tell(m.from, 8, b, assembly && assemblyBase == b ? assembled.length : 0, roundTold);
                return;
            }
            assembled = join(assembled, m.bytes);
            int got = assembled.length;
            if (got >= size) {
                boolean stay = b <= last() && b > base && termOf(b) == m.numbers[1];
                List<Entry> above = new ArrayList<>();
                if (stay) {
                    above.addAll(log.subList(b - base, log.size()));
                }
                log.clear();
                log.addAll(above);
                base = b;
                baseTerm = m.numbers[1];
                baseMembers = m.numbers[2];
                snapshot = assembled;
                synced = Math.min(synced, last());
                commit = b;
                applied = b;
                machine = Mach.of(snapshot);
                writeSnapshot();
                segmentsAfterBaseMoved();
                write();
                assembly = false;
            }
            tell(m.from, 8, b, got, roundTold);
        }

        void toLeader(Message m) {
            int s = m.from;
            if (m.term != term || role != 3 || !peer(s)) {
                return;
            }
            seen[s] = now;
            answered[s] = true;
            ack[s] = Math.max(ack[s], m.numbers[2]);
            if (m.kind == 6 && m.numbers[0] == 1) {
                int n = Math.min(m.numbers[1], last());
                match[s] = Math.max(match[s], n);
                probing[s] = false;
                flying[s] = Math.max(0, flying[s] - 1);
                next[s] = Math.max(next[s], n + 1);
            } else if (m.kind == 6) {
                flying[s] = 0;
                probing[s] = true;
                next[s] = Math.min(last() + 1, Math.max(match[s] + 1, m.numbers[1]));
            } else {
                flying[s] = 0;
                if (m.numbers[0] == base && m.numbers[1] >= snapshot.length) {
                    match[s] = Math.max(match[s], base);
                    next[s] = base + 1;
                    probing[s] = true;
                    offset[s] = 0;
                } else {
                    offset[s] = m.numbers[0] == base ? m.numbers[1] : 0;
                }
            }
            counts();
            looksAtReads();
            if (role == 3 && peer(s)) {
                sendsTo(s, false);
                if (handing == s && match[s] == last()) {
                    tell(s, 9);
                }
            }
        }

        void campaigns() {
            role = 2;
            leader = NONE;
            setTerm(term + 1, itself);
            votes = 0;
            drawAlarm();
            for (int s = 0; s < 7; s++) {
                if (s != itself && voter(s)) {
                    tell(s, 3, last(), lastTerm());
                }
            }
        }

        void leads() {
            if (last() - base == 300) {
                stepDown(term, NONE);
                return;
            }
            role = 3;
            leader = itself;
            handing = NONE;
            for (int s = 0; s < 7; s++) {
                next[s] = last() + 1;
                match[s] = 0;
                flying[s] = 0;
                offset[s] = 0;
                ack[s] = 0;
                probing[s] = true;
                seen[s] = now;
                answered[s] = false;
            }
            round = 0;
            first = last() + 1;
            append(new Entry(term, 0, new byte[0]));
            beats();
        }

        void beats() {
            if (handing != NONE && now - handingSet > 50) {
                handing = NONE;
            }
            alarm(itself, now + 10);
            round++;
            for (int s = 0; s < 7; s++) {
                if (peer(s) && flying[s] > 0 && !answered[s]) {
                    flying[s] = 0;
                    probing[s] = true;
                    next[s] = match[s] + 1;
                }
            }
            Arrays.fill(answered, false);
            match[itself] = synced;
            seen[itself] = now;
            ack[itself] = round;
            sendsToAll(true);
            looksAtReads();
        }

        void sendsToAll(boolean beat) {
            for (int s = 0; s < 7; s++) {
                if (peer(s)) {
                    sendsTo(s, beat);
                }
            }
        }

        void sendsTo(int s, boolean beat) {
            if (next[s] <= base) {
                if (flying[s] == 0) {
                    flying[s] = 1;
                    int to = Math.min(snapshot.length, offset[s] + 200);
                    Message m = letterTo(s, 7, term, base, baseTerm, baseMembers, snapshot.length, offset[s], round);
                    m.bytes = Arrays.copyOfRange(snapshot, offset[s], to);
                    sendLetter(m);
                }
                return;
            }
            boolean any = false;
            while (next[s] <= last() && flying[s] < (probing[s] ? 1 : 4)) {
                Message m = letterTo(s, 5, term, next[s] - 1, termOf(next[s] - 1), commit, round);
                while (next[s] <= last() && m.entries.size() < 6) {
                    m.entries.add(entry(next[s]));
                    next[s]++;
                }
                flying[s]++;
                sendLetter(m);
                any = true;
            }
            if (!any && beat) {
                tell(s, 5, next[s] - 1, termOf(next[s] - 1), commit, round);
            }
        }

        void counts() {
            if (role != 3) {
                return;
            }
            int n = whatMajorityHas(match);
            if (n > commit && termOf(n) == term) {
                commit = n;
                applies();
            }
            if (membersAt(last()) <= commit) {
                if (newer() != 0) {
                    if (last() - base < 300) {
                        append(new Entry(term, 1, number4(newer() + 16384 * learnerSet())));
                        sendsToAll(false);
                    }
                } else if ((old() >> itself & 1) == 0) {
                    stepDown(term, NONE);
                }
            }
        }

        void applies() {
            while (applied < commit) {
                applied++;
                Entry e = entry(applied);
                Came came = null;
                if (e.kind == 2) {
                    byte[] c = e.content;
                    if (c.length == 2) {
                        came = machine.open(applied);
                    } else {
                        came = machine.doIt(applied, at4(c, 0), at4(c, 4), opOf(c));
                    }
                }
                for (Waiter w : everWaited) {
                    if (w.waits && w.read == null && w.number == applied) {
                        w.waits = false;
                        if (w.term == e.term && came != null) {
                            replyTo(w.client, w.request, came.unknown ? 2 : 0, came.place, came.answer);
                        }
                    }
                }
            }
            looksAtReads();
            if (applied - base >= 24) {
                int t = termOf(applied);
                int c = membersCode(applied);
                List<Entry> above = new ArrayList<>(log.subList(applied - base, log.size()));
                log.clear();
                log.addAll(above);
                base = applied;
                baseTerm = t;
                baseMembers = c;
                snapshot = machine.snapshot();
                writeSnapshot();
                segmentsAfterBaseMoved();
                write();
                Arrays.fill(offset, 0);
            }
        }

        void looksAtReads() {
            if (role != 3) {
                return;
            }
            for (Waiter w : everWaited) {
                if (w.waits && w.read != null && applied >= w.number && whatMajorityHas(ack) >= w.round) {
                    w.waits = false;
                    replyTo(w.client, w.request, 0, applied, machine.read(w.read));
                }
            }
        }

        void sync() {
            syncAll();
            dirty = false;
            List<Message> go = new ArrayList<>(waitingLetters);
            waitingLetters.clear();
            for (Message m : go) {
                send(m);
            }
            synced = last();
            if (role == 2) {
                votes |= 1 << itself;
                if (isMajority(votes)) {
                    leads();
                }
            } else if (role == 3) {
                match[itself] = synced;
                counts();
            }
        }

        void wait(Waiter w) {
            everWaited.add(w);
            int behind = everWaited.size() - 33;
            if (behind >= 0) {
                everWaited.get(behind).waits = false;
            }
        }

        int waiters() {
            int n = 0;
            for (Waiter w : everWaited) {
                n += w.waits ? 1 : 0;
            }
            return n;
        }

        void request(Message m) {
            if (role != 3 || handing != NONE) {
                replyTo(m.from, m.term, 1, role == 3 ? handing : leader, new byte[0]);
                return;
            }
            Waiter w = new Waiter();
            w.client = m.from;
            w.request = m.term;
            w.term = term;
            if (m.op != null && m.op.kind >= 3) {
                w.read = m.op;
                w.number = termOf(commit) == term ? commit : first;
                w.round = round + 1;
                wait(w);
            } else if (last() - base >= 200) {
                replyTo(m.from, m.term, 3, 0, new byte[0]);
            } else {
                append(new Entry(term, 2, m.op == null ? new byte[2] : contentOf(m.numbers[0], m.numbers[1], m.op)));
                w.number = last();
                sendsToAll(false);
                wait(w);
            }
        }

        void beDown() {
            up = false;
            dirty = false;
            waitingLetters.clear();
            noAlarm(itself);
            noSync(itself);
        }

        void start() {
            find();
            up = true;
            dirty = false;
            role = 0;
            leader = NONE;
            commit = base;
            applied = base;
            machine = Mach.of(snapshot);
            synced = last();
            heard = NEVER;
            votes = 0;
            handing = NONE;
            assembly = false;
            for (Waiter w : everWaited) {
                w.waits = false;
            }
            drawAlarm();
        }

        boolean mayLead() {
            return up && role == 3 && handing == NONE;
        }

        boolean mayChange() {
            return mayLead() && last() - base < 200 && membersAt(last()) <= commit && newer() == 0;
        }

        void change(int code) {
            append(new Entry(term, 1, number4(code)));
            sendsToAll(false);
        }
    }

    /** Four bytes of session, four of serial, one of kind, one of k, one of v, one more; then what was asked with. */
    static byte[] contentOf(int session, int serial, Op op) {
        return join(number4(session, serial),
                new byte[] {(byte) op.kind, (byte) op.key.length, (byte) op.expected.length, 0},
                op.key, op.expected, op.value);
    }

    static Op opOf(byte[] c) {
        Op op = new Op();
        op.kind = c[8];
        int k = 12 + c[9];
        int v = k + c[10];
        op.key = Arrays.copyOfRange(c, 12, k);
        op.expected = Arrays.copyOfRange(c, k, v);
        op.value = Arrays.copyOfRange(c, v, c.length);
        return op;
    }

    // ---- clients

    final class Cli {
        final int itself;
        boolean waits;
        int target;
        int session = NONE;
        int serial;
        int request;
        int tries;
        Op op;
        int asking;
        boolean opening;
        boolean toBeImpatient;
        byte[] answer = {};

        Cli(int itself) {
            this.itself = itself;
        }

        void asked(Op what, int itsAsking) {
            op = what;
            asking = itsAsking;
            waits = true;
            tries = 0;
            opening = op.kind < 3 && session == NONE;
            if (op.kind < 3 && !opening) {
                serial++;
            }
            request++;
            requests();
        }

        void requests() {
            tries++;
            if (tries > 40) {
                givesUp();
                return;
            }
            Message m = new Message();
            m.from = itself;
            m.to = target;
            m.kind = 10;
            m.term = request;
            m.op = opening ? null : op;
            m.numbers = new int[] {session, serial};
            send(m);
            alarm(itself, now + 60);
            toBeImpatient = true;
        }

        void reply(Message m) {
            if (!waits || m.term != request) {
                return;
            }
            int what = m.numbers[0];
            int place = m.numbers[1];
            if (what == 0 && opening) {
                opening = false;
                session = place;
                serial = 1;
                request++;
                requests();
            } else if (what == 0) {
                answer = m.bytes;
                told(1, place);
            } else if (what == 1 && place != NONE) {
                target = place;
                requests();
            } else if (what == 1) {
                target = (target + 1) % 7;
                alarm(itself, now + 5);
                toBeImpatient = false;
            } else if (what == 2) {
                session = NONE;
                told(2, NONE);
            } else {
                alarm(itself, now + 20);
                toBeImpatient = false;
            }
        }

        void alarmRings() {
            if (toBeImpatient) {
                target = (target + 1) % 7;
            }
            requests();
        }

        void givesUp() {
            if (op.kind < 3) {
                session = NONE;
                told(2, NONE);
            } else {
                told(3, NONE);
            }
        }

        void told(int what, int place) {
            waits = false;
            noAlarm(itself);
            int[] h = history.get(asking);
            h[3] = moments++;
            h[4] = what;
            h[5] = place;
        }
    }

    // ---- the face

    Model(int n, long row) {
        for (int[] d : delays) {
            Arrays.fill(d, 3);
        }
        int firstOnes = 0;
        for (int s = 0; s < 7; s++) {
            if (s < n || s == 0) {
                firstOnes |= 1 << s;
            }
        }
        for (int s = 0; s < 7; s++) {
            servers[s] = new Srv(s, firstOnes, row);
        }
        for (int s = 0; s < 7; s++) {
            servers[s].drawAlarm();
        }
        for (int c = 0; c < 8; c++) {
            clients[c] = new Cli(8 + c);
        }
    }

    Srv srv(int s) {
        if (s < 0 || s > 6) {
            throw new IndexOutOfBoundsException();
        }
        return servers[s];
    }

    Cli cli(int c) {
        if (c < 0 || c > 7) {
            throw new IndexOutOfBoundsException();
        }
        return clients[c];
    }

    static void must(boolean so) {
        if (!so) {
            throw new IllegalArgumentException();
        }
    }

    static void there(boolean so) {
        if (!so) {
            throw new IndexOutOfBoundsException();
        }
    }

    int feed(int a, int b, int c, int d, int e) {
        if (tape.length + 20 > 400) {
            throw new IllegalStateException();
        }
        tape = join(tape, number4(a, b, c, d, e));
        return tape.length;
    }

    int end(int n) {
        must(n >= 0 && n <= 20);
        if (tape.length < 20) {
            throw new IllegalStateException();
        }
        tape = Arrays.copyOf(tape, tape.length - 20 + n);
        return tape.length;
    }

    int ask(int client, int kind, int k, int v) {
        byte[] t = tape;
        tape = new byte[0];
        Cli c = cli(client);
        must(kind >= 0 && kind <= 5 && k >= 1 && k <= 32 && k <= t.length);
        must(kind == 1 ? v >= 0 && v <= 100 && k + v <= t.length : v == 0);
        Op op = new Op();
        op.kind = kind;
        op.key = Arrays.copyOf(t, k);
        op.expected = Arrays.copyOfRange(t, k, k + v);
        op.value = Arrays.copyOfRange(t, k + v, t.length);
        int rest = op.value.length;
        must(kind > 1 || rest <= 100);
        must((kind != 2 && kind != 3 && kind != 5) || rest == 0);
        must(kind != 4 || (rest >= 1 && rest <= 32));
        if (c.waits || history.size() == 1024) {
            throw new IllegalStateException();
        }
        history.add(new int[] {client, kind, moments++, NONE, 0, NONE});
        c.asked(op, history.size() - 1);
        return history.size() - 1;
    }

    boolean giveUp(int client) {
        Cli c = cli(client);
        if (!c.waits) {
            return false;
        }
        c.givesUp();
        return true;
    }

    int run(int n) {
        must(n >= 1 && n <= 1000);
        int until = now + n;
        int many = 0;
        while (stepTo(until) != NONE) {
            many++;
        }
        now = until;
        return many;
    }

    int step() {
        return stepTo(Long.MAX_VALUE);
    }

    int delay(int from, int to, int ticks) {
        there(from >= 0 && from < 16 && from != 7 && to >= 0 && to < 16 && to != 7);
        must(ticks >= 1 && ticks <= 1000);
        int was = delays[from][to];
        delays[from][to] = ticks;
        return was;
    }

    int part(int set) {
        must(set >= 0 && set < 65536);
        int was = partedOff;
        partedOff = set;
        return was;
    }

    void noise(int l, int t, int s, long d) {
        must(l >= 0 && l <= 1000 && t >= 0 && t <= 1000 && s >= 0 && s <= 1000);
        loss = l;
        twice = t;
        spread = s;
        draw = d;
    }

    boolean meddle(int k, int what, int ticks) {
        must(what >= 0 && what <= 2 && ticks >= 0 && ticks <= 1000);
        List<Event> all = messages();
        if (k < 0 || k >= all.size()) {
            return false;
        }
        Event e = all.get(k);
        if (what == 0) {
            events.remove(e);
            lost++;
        } else if (what == 1) {
            onItsWay(e.message, now + delays[e.message.from][e.message.to]);
        } else {
            events.remove(e);
            make(e.time + ticks, e.whose, false, e.message);
        }
        return true;
    }

    int latency(int s, int ticks) {
        Srv x = srv(s);
        must(ticks >= 0 && ticks <= 1000);
        int was = x.latency;
        x.latency = ticks;
        return was;
    }

    boolean crash(int s, long row) {
        Srv x = srv(s);
        if (!x.up) {
            return false;
        }
        x.beDown();
        long r = row;
        for (FileOf f : x.files) {
            r = lcg(r);
            int keep = 0;
            if (r >>> 61 != 0) {
                long bits = (r >>> 33) % (1L << 20);
                keep = 1 + (int) (bits % (2 * (f.size() - f.low) + 1));
            }
            f.crash(keep);
        }
        return true;
    }

    boolean stop(int s) {
        Srv x = srv(s);
        if (!x.up) {
            return false;
        }
        x.syncAll();
        for (Message m : x.waitingLetters) {
            send(m);
        }
        x.beDown();
        return true;
    }

    boolean start(int s) {
        Srv x = srv(s);
        if (x.up) {
            return false;
        }
        x.start();
        return true;
    }

    boolean members(int s, int set) {
        Srv x = srv(s);
        if (!x.mayChange() || set < 1 || set > 127) {
            return false;
        }
        for (int i = 0; i < 7; i++) {
            boolean in = (set >> i & 1) == 1;
            boolean old = (x.old() >> i & 1) == 1;
            boolean ready = (x.learnerSet() >> i & 1) == 1 && x.match[i] >= x.commit;
            if (in && !old && !ready) {
                return false;
            }
        }
        x.change(x.old() + 128 * set + 16384 * (x.learnerSet() & ~set));
        return true;
    }

    boolean learners(int s, int set) {
        Srv x = srv(s);
        if (!x.mayChange() || set < 0 || set > 127 || (set & x.old()) != 0) {
            return false;
        }
        x.change(x.old() + 16384 * set);
        return true;
    }

    boolean hand(int s, int to) {
        Srv x = srv(s);
        if (!x.mayLead() || to < 0 || to > 6 || to == s || !x.voter(to)) {
            return false;
        }
        x.handing = to;
        x.handingSet = now;
        if (x.match[to] == x.last()) {
            x.tell(to, 9);
        } else {
            x.sendsTo(to, false);
        }
        return true;
    }

    int now() {
        return now;
    }

    int server(int s, int what) {
        Srv x = srv(s);
        there(what >= 0 && what <= 20);
        if (!x.up) {
            return what == 0 ? 0 : NONE;
        }
        int[] all = {1, x.role, x.term, x.voted, x.leader, x.commit, x.applied, x.synced, x.base, x.last(), x.code(),
            x.votes, x.handing, x.dirty ? 1 : 0, x.role == 3 ? x.round : 0, x.waitingLetters.size(), x.waiters(),
            x.machine.sessions.size(), x.machine.map.size(), x.machine.units(), x.snapshot.length};
        return all[what];
    }

    int entry(int s, int i, int what) {
        Srv x = srv(s);
        there(x.up && what >= 0 && what <= 2 && i >= x.base && i <= x.last() && (i > x.base || what == 0));
        return what == 0 ? x.termOf(i) : what == 1 ? x.entry(i).kind : x.entry(i).content.length;
    }

    int file(int s, int file, int what) {
        Srv x = srv(s);
        there(file >= 0 && file < 16 && what >= 0 && what <= 4);
        FileOf f = x.files[file];
        int[] all = {f.size(), f.synced == null ? 0 : f.synced.length, f.low, f.now == null ? 0 : 1,
            f.synced == null ? 0 : 1};
        return all[what];
    }

    int key(int s, int k) {
        Srv x = srv(s);
        there(x.up && k >= 0 && k < x.machine.map.size());
        result = new ArrayList<>(x.machine.map.keySet()).get(k);
        return result.length;
    }

    int value(int s, int k) {
        Srv x = srv(s);
        there(x.up && k >= 0 && k < x.machine.map.size());
        result = new ArrayList<>(x.machine.map.values()).get(k);
        return result.length;
    }

    int message(int k, int what) {
        List<Event> all = messages();
        there(k >= 0 && k < all.size() && what >= 0 && what <= 4);
        Event e = all.get(k);
        Message m = e.message;
        return new int[] {m.from, m.to, m.kind, m.term, e.time}[what];
    }

    int client(int client, int what) {
        Cli c = cli(client);
        there(what >= 0 && what <= 5);
        return new int[] {c.waits ? 1 : 0, c.target, c.session, c.serial, c.request, c.tries}[what];
    }

    int answer(int client) {
        result = cli(client).answer;
        return result.length;
    }

    int history(int i, int what) {
        there(i >= 0 && i < history.size() && what >= 0 && what <= 5);
        return history.get(i)[what];
    }

    int byteAt(int i) {
        there(i >= 0 && i < result.length);
        return result[i] & 255;
    }

    int count(int what) {
        int[] all = {messages().size(), everOnWay, lost, happened, history.size(), moments, tape.length};
        return what >= 0 && what < all.length ? all[what] : NONE;
    }
}
