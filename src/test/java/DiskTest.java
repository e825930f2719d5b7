import java.util.Random;

/** Disks, crashes, stops and starts: promises 13 to 15 and 22, and the sizes of 20 and 21. */
public final class DiskTest {
    private static final Check c = new Check("DiskTest");

    public static void main(String[] args) {
        slots();
        entries();
        snapshots();
        segments();
        stopping();
        crashing();
        torn();
        cutting();
        justFull();
        otherTerm();
        c.finish();
    }

    private static void file(Play p, int server, int file, String when, int... want) {
        for (int what = 0; what < 5; what++) {
            c.due("file(" + server + ", " + file + ", " + what + ") " + when, want[what],
                    p.s.file(server, file, what));
        }
    }

    /** Writing TERM and VOTED goes to slot 1 first, then to the other one, but to the same one until all is synced. */
    private static void slots() {
        Play p = new Play(1, 5L);
        p.s.latency(0, 200);
        file(p, 0, 1, "at first", 0, 0, 0, 0, 0);
        while (p.s.server(0, Play.DIRTY) == 0) {
            p.s.step();
        }
        file(p, 0, 1, "written", 32, 0, 0, 1, 0);
        file(p, 0, 0, "not written", 0, 0, 0, 0, 0);
        p.s.run(150);
        c.due("TERM after more campaigns", 1, p.s.server(0, Play.TERM) > 1 ? 1 : 0);
        file(p, 0, 1, "written again", 32, 0, 0, 1, 0);
        file(p, 0, 0, "not written", 0, 0, 0, 0, 0);
        p.s.stop(0);
        file(p, 0, 1, "synced", 32, 32, 32, 1, 1);
        int term = p.s.server(1, Play.TERM);
        c.due("TERM of another one", 0, term);
        p.s.latency(0, 2);
        p.s.start(0);
        int found = p.s.server(0, Play.TERM);
        c.isTrue("TERM that was found", found > 1);
        c.due("VOTED that was found", 0, p.s.server(0, Play.VOTED));
        while (p.s.server(0, Play.TERM) == found) {
            p.s.step();
        }
        file(p, 0, 0, "written in its turn", 32, 0, 0, 1, 0);
        file(p, 0, 1, "still", 32, 32, 32, 1, 1);
        // Cut off before it was synced, the other slot counts; written later, it is the other one's turn again.
        long row = rowThatCuts(0, 32, 0);
        p.s.crash(0, row);
        c.isTrue("the slot's rest", p.s.file(0, 0, 0) < 32);
        p.s.start(0);
        c.due("TERM that was found", found, p.s.server(0, Play.TERM));
        while (p.s.server(0, Play.TERM) == found) {
            p.s.step();
        }
        file(p, 0, 0, "written again", 32, p.s.file(0, 0, 1), 0, 1, 1);
        p.awaitLeader();
        p.s.stop(0);
        p.s.start(0);
        while (p.s.server(0, Play.ROLE) != 2) {
            p.s.step();
        }
        file(p, 0, 1, "in its turn", 32, 32, 0, 1, 1);
    }

    /** A row with which a file of this size and LOW is cut, to less than its size. */
    private static long rowThatCuts(int file, int size, int low) {
        for (long row = 1; row < 100000; row++) {
            long r = row;
            for (int f = 0; f <= file; f++) {
                r = Play.churn(r);
            }
            int keep = keep(r, size, low);
            if (keep > 0 && low + keep - 1 < size) {
                return row;
            }
        }
        throw new IllegalStateException("no such row");
    }

    private static int keep(long r, int size, int low) {
        return r >>> 61 == 0 ? 0 : 1 + (int) ((r >>> 33 & (1 << 20) - 1) % (2 * (size - low) + 1));
    }

    private static void entries() {
        Play p = new Play(1, 5L);
        while (p.s.server(0, Play.ROLE) != 3) {
            p.s.step();
        }
        file(p, 0, 4, "with one entry", 49, 0, 0, 1, 0);
        file(p, 0, 1, "synced", 32, 32, 32, 1, 1);
        p.s.run(2);
        file(p, 0, 4, "synced", 49, 49, 49, 1, 1);
        entry(p, 0, 0, 0, 0);
        entry(p, 1, 1, 0, 0);
        p.done(0, Play.PUT, "key", "value");
        entry(p, 2, 1, 2, 2);
        entry(p, 3, 1, 2, 20);
        file(p, 0, 4, "with three", 49 + 27 + 45, 121, 121, 1, 1);
        p.swapDone(0, "key", "value", "v");
        entry(p, 4, 1, 2, 12 + 3 + 5 + 1);
        p.done(0, Play.REMOVE, "key", "");
        entry(p, 5, 1, 2, 15);
        p.done(0, Play.GET, "key", "");
        c.due("a read is no entry", 5, p.s.server(0, Play.LAST));
        file(p, 0, 4, "with five", 121 + 46 + 40, 207, 207, 1, 1);
        c.isTrue("learners", p.s.learners(0, 2));
        entry(p, 6, 1, 1, 4);
        file(p, 0, 4, "dirty", 207 + 29, 207, 207, 1, 1);
        c.due("DIRTY", 1, p.s.server(0, Play.DIRTY));
        c.due("SYNCED", 5, p.s.server(0, Play.SYNCED));
        c.due("LAST", 6, p.s.server(0, Play.LAST));
        p.s.run(2);
        c.due("SYNCED", 6, p.s.server(0, Play.SYNCED));
        c.ioobe("entry(0, 7, 0)", () -> p.s.entry(0, 7, 0));
    }

    private static void entry(Play p, int i, int term, int kind, int size) {
        c.due("the term of " + i, term, p.s.entry(0, i, 0));
        if (i > 0) {
            c.due("the kind of " + i, kind, p.s.entry(0, i, 1));
            c.due("the bytes of " + i, size, p.s.entry(0, i, 2));
        }
    }

    /** BASE is APPLIED when that is 24 above it; the snapshot goes to file 2, then 3, then 2, and is synced at once. */
    private static void snapshots() {
        Play p = new Play(1, 5L);
        p.awaitLeader();
        for (int i = 0; i < 21; i++) {
            p.done(0, Play.PUT, "k" + (char) ('a' + i % 3), "v");
        }
        c.due("APPLIED", 23, p.s.server(0, Play.APPLIED));
        c.due("BASE", 0, p.s.server(0, Play.BASE));
        c.due("the snapshot", 0, p.s.server(0, Play.SNAPSHOT));
        file(p, 0, 2, "not yet", 0, 0, 0, 0, 0);
        int segment = p.s.file(0, 4, 0);
        p.s.latency(0, 30);
        p.done(0, Play.PUT, "ka", "new");
        c.due("BASE", 24, p.s.server(0, Play.BASE));
        c.due("LAST", 24, p.s.server(0, Play.LAST));
        c.due("the term of BASE", 1, p.s.entry(0, 24, 0));
        c.ioobe("entry(0, 23, 0)", () -> p.s.entry(0, 23, 0));
        c.ioobe("entry(0, 24, 1)", () -> p.s.entry(0, 24, 1));
        // Four, one session of eighteen and its answer (1 and "v"), four, three keys: three each, 2 + 3, 2 + 1, 2 + 1.
        int size = 4 + 18 + 2 + 4 + 9 + 11;
        c.due("the snapshot", size, p.s.server(0, Play.SNAPSHOT));
        file(p, 0, 2, "at once", 20 + size, 20 + size, 20 + size, 1, 1);
        file(p, 0, 3, "not yet", 0, 0, 0, 0, 0);
        int synced = p.s.file(0, 4, 1);
        c.isTrue("the segment was longer", synced > segment);
        file(p, 0, 4, "with no entry above BASE, and the log empty", 0, synced, 0, 0, 1);
        c.due("DIRTY", 1, p.s.server(0, Play.DIRTY));
        p.s.latency(0, 2);
        p.s.run(30);
        file(p, 0, 4, "gone", 0, 0, 0, 0, 0);
        for (int i = 0; i < 24; i++) {
            p.done(0, Play.PUT, "k" + (char) ('a' + i % 4), "");
        }
        c.due("BASE", 48, p.s.server(0, Play.BASE));
        size = 4 + 18 + 1 + 4 + 12 + 8;
        file(p, 0, 3, "in its turn", 20 + size, 20 + size, 20 + size, 1, 1);
        for (int i = 0; i < 24; i++) {
            p.done(0, Play.REMOVE, "k" + (char) ('a' + i % 4), "");
        }
        c.due("BASE", 72, p.s.server(0, Play.BASE));
        size = 4 + 18 + 1 + 4;
        file(p, 0, 2, "in its turn", 20 + size, 20 + size, 20 + size, 1, 1);
        c.isTrue("crash", p.s.crash(0, 1L));
        c.isTrue("start", p.s.start(0));
        c.due("BASE found", 72, p.s.server(0, Play.BASE));
        c.due("LAST found", 72, p.s.server(0, Play.LAST));
        c.due("COMMIT found", 72, p.s.server(0, Play.COMMIT));
        c.due("APPLIED found", 72, p.s.server(0, Play.APPLIED));
        c.due("SYNCED found", 72, p.s.server(0, Play.SYNCED));
        c.due("sessions found", 1, p.s.server(0, Play.SESSIONS));
        c.due("keys found", 0, p.s.server(0, Play.KEYS));
        c.due("the snapshot found", size, p.s.server(0, Play.SNAPSHOT));
        p.awaitLeader();
        c.due("the session goes on", 1, p.done(0, Play.PUT, "k", "v"));
    }

    /** A new segment begins when the last one has more than 8000 bytes; the first one goes when BASE is behind it. */
    private static void segments() {
        Play p = new Play(1, 5L);
        p.awaitLeader();
        int at = 24 + 25;
        int n = 1;
        while (n < 60) {
            p.done(0, Play.PUT, Play.text('k', 32), Play.text((char) n, 100));
            int frames = n == 1 ? 27 + 169 : 169;
            n += n == 1 ? 2 : 1;
            // At 24, 48 the log is empty, and all segments go.
            if (n % 24 == 0) {
                file(p, 0, 4, "when the log is empty", 0, p.s.file(0, 4, 1), 0, 0, p.s.file(0, 4, 4));
                at = 24;
            } else {
                at += frames;
                c.due("the segment with " + n, at, p.s.file(0, 4, 0));
            }
        }
        // Entries that are not agreed on stay above BASE: here is more than a segment of them.
        Play q = Play.three(Play.rowFor(12));
        int l = q.awaitLeader();
        for (int client = 0; client < 8; client++) {
            q.ask(client, Play.PUT, Play.text('k', 32), Play.text('v', 100));
        }
        q.s.run(60);
        c.due("sessions", 8, q.s.server(l, Play.SESSIONS));
        q.s.part(127 & ~(1 << l));
        for (int client = 0; client < 8; client++) {
            q.swap(client, Play.text('k', 32), Play.text('v', 100), Play.text('w', 100));
        }
        for (int i = 0; i < 32; i++) {
            q.s.meddle(q.findMessage(10), 1, 0);
        }
        int base = q.s.server(l, Play.BASE);
        int before = q.s.file(l, 4, 0);
        int last = q.s.server(l, Play.LAST);
        q.s.run(3);
        c.due("entries", last + 40, q.s.server(l, Play.LAST));
        c.due("BASE", base, q.s.server(l, Play.BASE));
        int inFirst = 0;
        int size = before;
        while (size <= 8000) {
            size += 25 + 12 + 232;
            inFirst++;
        }
        c.due("the first segment", size, q.s.file(l, 4, 0));
        c.due("the second one", 24 + (40 - inFirst) * 269, q.s.file(l, 5, 0));
        q.s.run(2);
        // Both are found again: the second one tells the term of the entry before.
        q.s.stop((l + 1) % 3);
        q.s.stop(l);
        q.s.start(l);
        c.due("LAST found", last + 40, q.s.server(l, Play.LAST));
        c.due("SYNCED found", last + 40, q.s.server(l, Play.SYNCED));
        q.s.part(0);
        q.s.run(600);
        c.isTrue("agreed on at last", q.s.server(l, Play.BASE) > last + inFirst);
        c.due("the first segment is gone", 0, q.s.file(l, 4, 0));
    }

    private static void stopping() {
        Play p = Play.three(Play.rowFor(12));
        int l = p.awaitLeader();
        p.s.run(20);
        p.ask(0, Play.PUT, "k", "v");
        while (p.s.server(l, Play.LETTERS) == 0) {
            p.s.step();
        }
        int letters = p.s.server(l, Play.LETTERS);
        int way = p.s.count(0);
        int size = p.s.file(l, 4, 0);
        c.isTrue("stop", p.s.stop(l));
        c.due("letters that waited are sent", way + letters, p.s.count(0));
        file(p, l, 4, "synced", size, size, size, 1, 1);
        c.due("it is down", 0, p.s.server(l, 0));
        int term = p.s.server((l + 1) % 3, Play.TERM);
        c.isTrue("start", p.s.start(l));
        int[] want = {1, 0, term, l, -1, 0, 0, 2, 0, 2, 7, 0, -1, 0, 0, 0, 0, 0, 0, 0, 0};
        for (int what = 0; what < want.length; what++) {
            c.due("server(" + l + ", " + what + ") begun again", want[what], p.s.server(l, what));
        }
        // ROW goes on: its next alarm is drawn behind those that were drawn before.
        Play q = new Play(1, 9L);
        q.s.stop(0);
        for (int i = 2; i < 7; i++) {
            q.s.stop(i);
        }
        q.s.stop(1);
        q.s.run(7);
        q.s.start(1);
        c.due("step", 1, q.s.step());
        c.due("now", 7 + Play.ticks(Play.churn(Play.churn(10L))), q.s.now());
    }

    /** What crash() leaves of each file, reckoned from what it was. */
    private static void crashing() {
        Random random = new Random(4);
        int[] seen = new int[4];
        for (int round = 0; round < 300; round++) {
            Play p = new Play(3, 7L * round);
            p.s.latency(0, 2 + random.nextInt(60));
            p.s.latency(1, 2 + random.nextInt(60));
            int many = random.nextInt(25);
            for (int i = 0; i < many; i++) {
                p.ask(i % 8, Play.PUT, "k" + i, Play.text('v', random.nextInt(100)));
                p.s.run(1 + random.nextInt(90));
                p.s.giveUp((i + 1) % 8);
            }
            for (int server = 0; server < 3; server++) {
                long row = random.nextLong();
                crash(p, server, row, seen);
            }
        }
        for (int i = 0; i < seen.length; i++) {
            c.isTrue("files of sort " + i + " were seen", seen[i] > 0);
        }
    }

    private static void crash(Play p, int server, long row, int[] seen) {
        int[][] want = new int[16][];
        long r = row;
        for (int f = 0; f < 16; f++) {
            r = Play.churn(r);
            int now = p.s.file(server, f, 0);
            int low = p.s.file(server, f, 2);
            int there = p.s.file(server, f, 3);
            int keep = keep(r, now, low);
            if (keep == 0) {
                seen[now == p.s.file(server, f, 1) ? 0 : 1]++;
                now = p.s.file(server, f, 1);
                there = p.s.file(server, f, 4);
            } else {
                seen[now > low + keep - 1 ? 2 : 3]++;
                now = Math.min(now, low + keep - 1);
            }
            want[f] = new int[] {now, now, now, there, there};
        }
        c.isTrue("crash", p.s.crash(server, row));
        for (int f = 0; f < 16; f++) {
            file(p, server, f, "crashed with " + row, want[f]);
        }
        c.due("down", 0, p.s.server(server, 0));
        c.due("crash again", false, p.s.crash(server, row));
    }

    /** Of a segment that was cut the whole frames are found; of a wholly cut log none, and its file is removed. */
    private static void torn() {
        int partly = 0;
        int headless = 0;
        for (int cut = 1; cut < 200; cut++) {
            Play p = new Play(1, 5L);
            while (p.s.server(0, Play.ROLE) != 3) {
                p.s.step();
            }
            // EMPTY is written, and not synced: 24 bytes of head, 25 of the entry.
            long row = cut;
            p.s.crash(0, row);
            int left = p.s.file(0, 4, 0);
            p.s.start(0);
            int last = left >= 49 ? 1 : 0;
            c.due("LAST found with " + left, last, p.s.server(0, Play.LAST));
            c.due("SYNCED found with " + left, last, p.s.server(0, Play.SYNCED));
            c.due("COMMIT found with " + left, 0, p.s.server(0, Play.COMMIT));
            int rest = left >= 49 ? 49 : left >= 24 ? 24 : 0;
            int there = left >= 24 ? 1 : 0;
            file(p, 0, 4, "found with " + left, rest, rest, rest, there, there);
            partly += left > 24 && left < 49 ? 1 : 0;
            headless += left > 0 && left < 24 ? 1 : 0;
            p.awaitLeader();
            c.due("the next entry", last + 1, p.s.server(0, Play.LAST));
            c.due("in the file", 24 + 25 * (last + 1), p.s.file(0, 4, 0));
        }
        c.isTrue("cut in the entry", partly > 0);
        c.isTrue("cut in the head", headless > 0);
    }

    /** A follower's log is cut where the leader's is another; LOW falls, and what was synced is as it was. */
    private static void cutting() {
        Play p = Play.three(Play.rowFor(12));
        int old = p.awaitLeader();
        p.s.run(20);
        int last = p.s.server(old, Play.LAST);
        p.s.part(1 << old | 1 << 8 | 1 << 9);
        p.ask(0, Play.PUT, "k", "v");
        p.ask(1, Play.PUT, "k", "v");
        p.s.run(8);
        c.due("entries of the old leader", last + 2, p.s.server(old, Play.LAST));
        int size = p.s.file(old, 4, 0);
        file(p, old, 4, "synced", size, size, size, 1, 1);
        int fresh = -1;
        for (int i = 0; i < 100 && fresh < 0; i++) {
            p.s.run(5);
            for (int s = 0; s < 3; s++) {
                fresh = s != old && p.s.server(s, Play.ROLE) == 3 ? s : fresh;
            }
        }
        p.s.run(20);
        c.isTrue("another leader", fresh >= 0);
        c.due("its entries", last + 1, p.s.server(fresh, Play.LAST));
        p.s.latency(old, 50);
        p.s.part(0);
        while (p.s.server(old, Play.LAST) != last + 1) {
            p.s.step();
        }
        c.due("SYNCED fell", last, p.s.server(old, Play.SYNCED));
        c.due("the new entry's term", p.s.server(fresh, Play.TERM), p.s.entry(old, last + 1, 0));
        // Two frames of 27 (OPEN) are cut off, one of 25 (EMPTY) comes behind.
        file(p, old, 4, "cut", size - 54 + 25, size, size - 54, 1, 1);
        while (p.s.server(old, Play.DIRTY) == 1) {
            p.s.step();
        }
        size = p.s.file(old, 4, 0);
        file(p, old, 4, "synced", size, size, size, 1, 1);
    }

    /** A segment with 8000 bytes takes one entry more; with 8001 it does not. */
    private static void justFull() {
        for (int more = 0; more < 2; more++) {
            Play p = new Play(1, 5L);
            p.awaitLeader();
            p.done(0, Play.PUT, "k", Play.text('v', 85 + more));
            file(p, 0, 4, "before", 199 + more, 199 + more, 199 + more, 1, 1);
            p.s.latency(0, 1000);
            p.swap(0, Play.text('k', 32), Play.text('v', 100), Play.text('w', 100));
            for (int i = 1; i < 29; i++) {
                p.s.meddle(0, 1, 0);
            }
            p.s.run(3);
            c.due("entries", 3 + 29, p.s.server(0, Play.LAST));
            c.due("the segment", 8000 + more, p.s.file(0, 4, 0));
            p.ask(1, Play.PUT, "k", "v");
            p.s.run(3);
            c.due("entries", 3 + 30, p.s.server(0, Play.LAST));
            c.due("the segment", more == 0 ? 8027 : 8001, p.s.file(0, 4, 0));
            c.due("the next one", more == 0 ? 0 : 24 + 27, p.s.file(0, 5, 0));
        }
    }

    /** A segment that comes back in a crash, with BASE's entry of another term than the snapshot's, is no part of it. */
    private static void otherTerm() {
        Play p = Play.three(Play.rowFor(12));
        int l = p.awaitLeader();
        p.s.run(20);
        p.done(0, Play.PUT, "k", "v");
        p.s.run(20);
        p.s.part(1 << l | 1 << 8);
        p.ask(0, Play.PUT, "k", "w");
        for (int i = 0; i < 60; i++) {
            p.s.meddle(p.findMessage(10), 1, 0);
        }
        p.s.run(8);
        int old = p.s.server(l, Play.LAST);
        c.due("what it has alone", 3 + 61, old);
        int size = p.s.file(l, 4, 1);
        p.s.run(400);
        for (int i = 0; i < 40; i++) {
            c.due("told", 1, p.done(1 + i % 3, Play.PUT, "k", "v" + i));
        }
        p.s.latency(l, 300);
        p.s.part(0);
        for (int i = 0; i < 5000 && p.s.server(l, Play.BASE) == 0; i++) {
            p.s.step();
        }
        int base = p.s.server(l, Play.BASE);
        int term = p.s.entry(l, base, 0);
        c.isTrue("BASE is in what it had", base >= 24 && base < old);
        file(p, l, 4, "removed, and not synced", 0, size, 0, 0, 1);
        long row = 0;
        while (keepOf(row, 4) != 0) {
            row++;
        }
        p.s.crash(l, row);
        file(p, l, 4, "back again", size, size, size, 1, 1);
        p.s.start(l);
        c.due("BASE found", base, p.s.server(l, Play.BASE));
        c.due("the term of BASE", term, p.s.entry(l, base, 0));
        c.due("LAST found", base, p.s.server(l, Play.LAST));
        file(p, l, 4, "removed", 0, 0, 0, 0, 0);
    }

    /** What is kept of a file with nothing that is not synced: 0 when that is as it was synced. */
    private static int keepOf(long row, int file) {
        long r = row;
        for (int f = 0; f <= file; f++) {
            r = Play.churn(r);
        }
        return keep(r, 0, 0);
    }
}
