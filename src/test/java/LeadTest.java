/** Elections, copying, snapshots sent, members and handing over: promises 16 to 18, 20 and 21, and what lies behind. */
public final class LeadTest {
    private static final Check c = new Check("LeadTest");

    public static void main(String[] args) {
        election();
        noQuorum();
        quorumEdge();
        refusals();
        heardEdge();
        oldLeader();
        copying();
        snapshotSent();
        learners();
        members();
        leaderLeaves();
        handing();
        handingEnds();
        handingLasts();
        lateGo();
        justHeard();
        toldTooMuch();
        busy();
        fullLog();
        manyWait();
        lettersWait();
        c.finish();
    }

    private static void server(Play p, int s, String when, int... pairs) {
        for (int i = 0; i < pairs.length; i += 2) {
            c.due("server(" + s + ", " + pairs[i] + ") " + when, pairs[i + 1], p.s.server(s, pairs[i]));
        }
    }

    private static void runTo(Play p, int time) {
        p.s.run(time - p.s.now());
    }

    /** Three servers choose one: each step at its time. */
    private static void election() {
        long row = Play.rowFor(12);
        int t = Play.ticks(Play.churn(row));
        Play p = Play.three(row);
        runTo(p, t);
        server(p, 0, "asks", 1, 1, 2, 0, 3, -1, 4, -1, 11, 1);
        runTo(p, t + 6);
        server(p, 0, "stands", 1, 2, 2, 1, 3, 0, 4, -1, 11, 0, 13, 1, 15, 2);
        server(p, 1, "only granted", 1, 0, 2, 0, 3, -1, 13, 0);
        runTo(p, t + 8);
        server(p, 0, "votes for itself", 1, 2, 11, 1, 13, 0, 15, 0);
        runTo(p, t + 11);
        server(p, 1, "votes", 1, 0, 2, 1, 3, 0, 4, -1, 13, 1, 15, 1);
        runTo(p, t + 15);
        server(p, 0, "waits for votes", 1, 2);
        runTo(p, t + 16);
        server(p, 0, "leads", 1, 3, 2, 1, 3, 0, 4, 0, 5, 0, 7, 0, 9, 1, 11, 3, 13, 1, 14, 1, 15, 2);
        c.due("its entry's term", 1, p.s.entry(0, 1, 0));
        c.due("its entry's kind", 0, p.s.entry(0, 1, 1));
        runTo(p, t + 18);
        c.due("the first letter then", 5, p.s.message(0, 2));
        c.due("its term", 1, p.s.message(0, 3));
        runTo(p, t + 21);
        server(p, 1, "follows", 1, 0, 4, 0, 5, 0, 7, 0, 9, 1, 13, 1, 15, 1);
        runTo(p, t + 23);
        server(p, 1, "synced", 7, 1, 13, 0, 15, 0);
        runTo(p, t + 26);
        server(p, 0, "has agreement", 5, 1, 6, 1, 14, 2);
        runTo(p, t + 29);
        server(p, 1, "heard a beat sent before that", 5, 0, 6, 0);
        runTo(p, t + 36);
        server(p, 0, "beats", 14, 3);
        runTo(p, t + 39);
        server(p, 1, "was told", 5, 1, 6, 1);
        server(p, 2, "was told", 5, 1, 6, 1);
        p.s.run(1000);
        server(p, 0, "leads on", 1, 3, 2, 1, 9, 1);
        c.isTrue("beats every ten ticks", p.s.server(0, Play.ROUND) > 100);
    }

    /** One that has not heard of a majority for longer than a hundred ticks steps down when its alarm rings. */
    private static void noQuorum() {
        Play p = Play.three(Play.rowFor(12));
        int l = p.awaitLeader();
        p.s.run(50);
        p.s.part(1 << l | 1 << 8);
        int parted = p.s.now();
        p.ask(0, Play.GET, "k", "");
        int still = parted;
        while (p.s.server(l, Play.ROLE) == 3) {
            p.s.step();
            still = p.s.now();
        }
        c.isTrue("it leads for a hundred ticks more", still > parted + 95);
        c.isTrue("but no longer", still <= parted + 113);
        server(p, l, "stepped down", 1, 0, 2, 1, 4, -1, 12, -1, 14, 0, 16, 0);
        c.due("who asked it waits still", 0, p.s.history(0, 4));
        // A learner's voice does not count, a voter's does: with one of two others it leads on.
        Play q = Play.three(Play.rowFor(12));
        int m = q.awaitLeader();
        q.s.part(1 << (m + 1) % 3);
        q.s.run(1000);
        server(q, m, "with one other", 1, 3);
    }

    /** Heard of exactly a hundred ticks ago is enough, a hundred and one is not. */
    private static void quorumEdge() {
        for (int there = 4; there <= 5; there++) {
            Play p = Play.three(Play.rowFor(12));
            int l = p.awaitLeader();
            for (int s = 0; s < 3; s++) {
                p.s.delay(l, s, there);
                p.s.delay(s, l, 5);
            }
            p.s.run(100);
            int round = p.s.server(l, Play.ROUND);
            while (p.s.server(l, Play.ROUND) == round) {
                p.s.step();
            }
            // It beats now; answers come with the next beat, behind it, or a tick before.
            p.s.run(10);
            p.s.part(1 << l);
            p.s.run(99);
            server(p, l, "before the beat", 1, 3, 14, round + 11);
            p.s.run(1);
            server(p, l, "at the beat", 1, there == 5 ? 3 : 0);
            p.s.run(9);
            server(p, l, "before the next one", 1, there == 5 ? 3 : 0);
            p.s.run(1);
            server(p, l, "at that", 1, 0);
        }
    }

    /** HEARD fifty ticks ago, it grants; forty-nine ticks ago it does not. */
    private static void heardEdge() {
        int tried = 0;
        for (int before = 0; before < 60; before += 3) {
            for (int ago = 49; ago <= 50; ago++) {
                Play p = Play.three(Play.rowFor(12));
                int l = p.awaitLeader();
                p.s.run(30);
                int one = (l + 1) % 3;
                int other = (l + 2) % 3;
                p.s.part(1 << one);
                p.s.run(30 + before);
                while (!(p.s.count(0) > 0 && p.s.message(0, 2) == 5 && p.s.message(0, 1) == other)) {
                    p.s.step();
                }
                while (p.findMessage(5) >= 0 && p.s.message(0, 2) == 5) {
                    p.s.step();
                }
                int heard = p.s.now();
                p.s.stop(l);
                while (p.s.count(0) > 0) {
                    p.s.meddle(0, 0, 0);
                }
                p.s.part(0);
                while (p.findMessage(1) < 0 && p.s.now() < heard + 45) {
                    p.s.step();
                }
                int k = p.findMessage(1);
                while (k >= 0 && k < p.s.count(0) && p.s.message(k, 1) != other) {
                    k++;
                }
                if (k < 0 || k >= p.s.count(0) || p.s.message(k, 0) != one || p.s.message(k, 4) > heard + 49) {
                    continue;
                }
                int asked = p.s.message(k, 3);
                p.s.meddle(k, 2, heard + ago - p.s.message(k, 4));
                runTo(p, heard + ago);
                if (p.s.server(other, Play.ROLE) != 0) {
                    continue;
                }
                int back = p.findMessage(2);
                c.isTrue("it says something", back >= 0);
                c.due("its term when heard " + ago + " ago", ago == 50 ? asked : asked - 1, p.s.message(back, 3));
                tried++;
            }
        }
        c.isTrue("it was tried", tried > 3);
    }

    /** Those who heard of a leader do not grant; those who know more do not vote. */
    private static void refusals() {
        Play p = Play.three(Play.rowFor(12));
        int l = p.awaitLeader();
        p.s.run(20);
        int other = (l + 1) % 3;
        // Parted off it asks, but its TERM stays, and when it comes back the leader leads on.
        p.s.part(1 << other);
        p.s.run(400);
        server(p, other, "asked in vain", 1, 1, 2, 1, 11, 1 << other);
        p.s.part(0);
        p.s.run(100);
        server(p, other, "follows again", 1, 0, 2, 1, 4, l);
        server(p, l, "leads on", 1, 3, 2, 1);
        // One whose log is behind is granted nothing, though there is no leader.
        p.s.part(1 << other);
        p.done(0, Play.PUT, "k", "v");
        p.s.stop(l);
        int third = 3 - l - other;
        p.s.stop(third);
        p.s.part(0);
        p.s.start(third);
        for (int i = 0; i < 60; i++) {
            p.s.run(10);
            c.isTrue("the one behind never stands", p.s.server(other, Play.ROLE) < 2);
        }
        server(p, third, "leads", 1, 3);
        c.due("the one behind has it all", p.s.server(third, Play.LAST), p.s.server(other, Play.LAST));
    }

    /** One that leads hears of a greater term, and follows; what it alone had is cut. */
    private static void oldLeader() {
        Play p = Play.three(Play.rowFor(12));
        int l = p.awaitLeader();
        p.s.run(20);
        p.s.stop((l + 1) % 3);
        p.s.stop((l + 2) % 3);
        int lost = p.ask(0, Play.PUT, "k", "lost");
        p.s.run(20);
        server(p, l, "alone", 1, 3, 9, 2, 5, 1, 16, 1);
        p.s.crash(l, 1L);
        p.s.start((l + 1) % 3);
        p.s.start((l + 2) % 3);
        p.s.run(300);
        int fresh = p.leader();
        c.isTrue("another leads", fresh >= 0 && fresh != l);
        c.isTrue("with a greater term", p.s.server(fresh, Play.TERM) > 1);
        p.s.start(l);
        p.s.run(100);
        server(p, l, "follows", 1, 0, 4, fresh, 2, p.s.server(fresh, Play.TERM), 9, p.s.server(fresh, Play.LAST));
        c.due("told at last", 1, p.told(lost));
        for (int i = 1; i <= p.s.server(fresh, Play.LAST); i++) {
            c.due("the term of " + i, p.s.entry(fresh, i, 0), p.s.entry(l, i, 0));
        }
    }

    private static void copying() {
        Play p = Play.three(Play.rowFor(12));
        int l = p.awaitLeader();
        for (int i = 0; i < 10; i++) {
            c.due("told", 1, p.done(i % 8, Play.PUT, "k" + i, "v" + i));
        }
        p.s.run(30);
        for (int s = 0; s < 3; s++) {
            server(p, s, "as the leader", 5, p.s.server(l, 5), 6, p.s.server(l, 6), 9, p.s.server(l, 9), 18, 10, 17, 8,
                    19, 10);
            for (int k = 0; k < 10; k++) {
                c.isTrue("key", ("k" + k).equals(p.key(s, k)));
                c.isTrue("value", ("v" + k).equals(p.value(s, k)));
            }
        }
        p.s.start(5);
        p.s.run(100);
        server(p, 5, "no member", 9, 0, 2, 0, 4, -1);
        // At most six entries in an APPEND, one in flight while probing: a follower that is far behind.
        p = Play.three(Play.rowFor(12));
        l = p.awaitLeader();
        p.s.run(20);
        int behind = (l + 1) % 3;
        p.s.part(1 << behind);
        for (int i = 0; i < 9; i++) {
            p.done(0, Play.PUT, "k", "v" + i);
        }
        int had = p.s.server(behind, Play.LAST);
        p.s.part(0);
        int most = 0;
        for (int i = 0; i < 4000 && p.s.server(behind, Play.LAST) < p.s.server(l, Play.LAST); i++) {
            p.s.step();
            int has = p.s.server(behind, Play.LAST);
            most = Math.max(most, has - had);
            had = has;
        }
        c.due("entries taken at once", 6, most);
        c.due("LAST", p.s.server(l, Play.LAST), p.s.server(behind, Play.LAST));
    }

    /** A follower that is behind BASE is sent the snapshot in pieces of 200 bytes. */
    private static void snapshotSent() {
        Play p = Play.three(Play.rowFor(12));
        int l = p.awaitLeader();
        int behind = (l + 1) % 3;
        p.s.part(1 << behind);
        for (int i = 0; i < 30; i++) {
            p.done(i % 8, Play.PUT, "k" + (char) ('a' + i % 9), Play.text((char) i, 60));
        }
        int base = p.s.server(l, Play.BASE);
        c.isTrue("BASE moved", base >= 24);
        int size = p.s.server(l, Play.SNAPSHOT);
        int pieces = (size + 199) / 200;
        c.isTrue("several pieces", pieces > 2);
        server(p, behind, "behind", 8, 0, 9, 1);
        p.s.part(0);
        int sent = 0;
        int stored = 0;
        int steps = 0;
        while (p.s.server(behind, Play.BASE) == 0 && steps++ < 5000) {
            int letter = p.s.count(0) > 0 ? p.s.message(0, 2) : 0;
            int events = p.s.count(0);
            p.s.step();
            if (p.s.count(0) < events || letter == 7) {
                sent += letter == 7 ? 1 : 0;
            }
            stored += letter == 8 ? 1 : 0;
        }
        c.isTrue("pieces arrived", sent >= pieces);
        c.isTrue("answers came", stored >= pieces - 1);
        server(p, behind, "has taken it in", 8, base, 5, base, 6, base, 9, base, 20, size, 13, 1, 7, 1);
        c.due("the term of BASE", p.s.entry(l, base, 0), p.s.entry(behind, base, 0));
        c.due("its file", 20 + size, p.s.file(behind, 2, 0));
        c.due("synced at once", 20 + size, p.s.file(behind, 2, 1));
        c.due("its segment is removed", 0, p.s.file(behind, 4, 3));
        for (int what = 17; what < 20; what++) {
            c.isTrue("the machine", p.s.server(behind, what) > 0);
        }
        p.s.run(100);
        server(p, behind, "as the leader", 9, p.s.server(l, 9), 6, p.s.server(l, 6), 18, p.s.server(l, 18), 19,
                p.s.server(l, 19), 17, p.s.server(l, 17));
        for (int k = 0; k < p.s.server(l, Play.KEYS); k++) {
            c.isTrue("key", p.key(l, k).equals(p.key(behind, k)));
            c.isTrue("value", p.value(l, k).equals(p.value(behind, k)));
        }
        // What its sessions had been told is in it, too: it leads, and a command done before is not done again.
        p.s.hand(l, behind);
        p.s.run(100);
        server(p, behind, "leads", 1, 3);
        c.due("told", 1, p.done(0, Play.PUT, "z", "z"));
    }

    private static void learners() {
        Play p = Play.three(Play.rowFor(12));
        int l = p.awaitLeader();
        p.s.run(20);
        p.s.start(5);
        p.s.start(6);
        int last = p.s.server(l, Play.LAST);
        c.due("a set with one of OLD", false, p.s.learners(l, 1 << 5 | 1));
        c.due("-1", false, p.s.learners(l, -1));
        c.due("128", false, p.s.learners(l, 128));
        c.due("LAST", last, p.s.server(l, Play.LAST));
        c.due("of one that follows", false, p.s.learners((l + 1) % 3, 1 << 5));
        c.due("learners", true, p.s.learners(l, 1 << 5 | 1 << 6));
        server(p, l, "with learners", 10, 7 + 16384 * 96, 9, last + 1);
        c.due("the entry's kind", 1, p.s.entry(l, last + 1, 1));
        c.due("the entry's bytes", 4, p.s.entry(l, last + 1, 2));
        c.due("before it is agreed on", false, p.s.learners(l, 0));
        c.due("before it is agreed on", false, p.s.members(l, 7));
        p.s.run(60);
        server(p, 5, "learns", 1, 0, 4, l, 9, last + 1, 10, 7 + 16384 * 96, 5, last + 1);
        server(p, 6, "learns", 9, last + 1);
        p.s.part(7);
        p.s.run(300);
        server(p, 5, "asks for no votes", 1, 0, 11, 0);
        p.s.part(0);
        p.s.run(30);
        c.due("none", true, p.s.learners(l, 0));
        server(p, l, "without learners", 10, 7);
    }

    private static void members() {
        Play p = Play.three(Play.rowFor(12));
        int l = p.awaitLeader();
        p.s.run(20);
        p.s.start(5);
        c.due("none", false, p.s.members(l, 0));
        c.due("-1", false, p.s.members(l, -1));
        c.due("128", false, p.s.members(l, 128));
        c.due("one that is unknown", false, p.s.members(l, 7 | 1 << 5));
        p.s.delay(l, 5, 30);
        c.due("learners", true, p.s.learners(l, 1 << 5 | 1 << 6));
        p.s.run(20);
        c.due("one that has not learned", false, p.s.members(l, 7 | 1 << 5));
        p.s.run(100);
        c.due("one that is down", false, p.s.members(l, 7 | 1 << 6));
        p.s.delay(l, 5, 3);
        p.s.run(60);
        int last = p.s.server(l, Play.LAST);
        c.due("one that has learned", true, p.s.members(l, 1 << l | 1 << 5));
        int set = 1 << l | 1 << 5;
        server(p, l, "with OLD and NEW", 10, 7 + 128 * set + 16384 * 64, 9, last + 1);
        c.due("again", false, p.s.members(l, 7));
        // Both sets must agree: with 5 parted off nothing is agreed on, though all of OLD are there.
        p.s.part(1 << 5);
        p.s.run(40);
        server(p, l, "waits for NEW", 5, last, 10, 7 + 128 * set + 16384 * 64);
        p.s.part(0);
        p.s.run(100);
        server(p, l, "with NEW alone", 10, set + 16384 * 64, 9, last + 2, 5, last + 2, 1, 3);
        server(p, 5, "votes", 10, set + 16384 * 64);
        c.due("the entry's kind", 1, p.s.entry(l, last + 2, 1));
        c.due("told", 1, p.done(0, Play.PUT, "k", "v"));
        int former = (l + 1) % 3;
        int has = p.s.server(former, Play.LAST);
        p.done(0, Play.PUT, "k", "w");
        c.due("one that is no member any more", has, p.s.server(former, Play.LAST));
        p.s.part(1 << 5);
        p.s.run(150);
        server(p, l, "without a majority of two", 1, p.s.server(l, 1) == 3 ? 0 : p.s.server(l, 1));
        // A change to the same members is one, too.
        p.s.part(0);
        int m = p.awaitLeader();
        p.s.run(100);
        m = p.awaitLeader();
        c.due("the same members", true, p.s.members(m, set));
        server(p, m, "with both", 10, set + 128 * set + 16384 * 64);
        p.s.run(100);
        server(p, m, "with one set", 10, set + 16384 * 64, 1, 3);
    }

    /** A leader that is not in NEW leads until its last entry is agreed on, then steps down. */
    private static void leaderLeaves() {
        Play p = Play.three(Play.rowFor(12));
        int l = p.awaitLeader();
        p.s.run(20);
        int set = 7 & ~(1 << l);
        c.due("members without it", true, p.s.members(l, set));
        int term = p.s.server(l, Play.TERM);
        while (p.s.server(l, Play.ROLE) == 3) {
            p.s.step();
        }
        server(p, l, "has left", 1, 0, 2, term, 4, -1, 10, set, 5, p.s.server(l, Play.LAST));
        p.s.run(600);
        int fresh = p.leader();
        c.isTrue("another one leads", fresh >= 0 && fresh != l);
        server(p, l, "asks for no votes", 1, 0);
        c.due("told", 1, p.done(0, Play.PUT, "k", "v"));
        // One server alone changes to itself.
        Play q = new Play(1, 5L);
        q.awaitLeader();
        c.due("members", true, q.s.members(0, 1));
        server(q, 0, "with both", 10, 1 + 128, 9, 2);
        q.s.run(2);
        server(q, 0, "agreed on, the last one written", 10, 1, 9, 3, 5, 2);
        q.s.run(2);
        server(q, 0, "agreed on", 5, 3, 1, 3);
    }

    private static void handing() {
        Play p = Play.three(Play.rowFor(12));
        int l = p.awaitLeader();
        p.s.run(30);
        int to = (l + 1) % 3;
        c.due("to itself", false, p.s.hand(l, l));
        c.due("to one that is no voter", false, p.s.hand(l, 5));
        c.due("to none", false, p.s.hand(l, -1));
        c.due("to none", false, p.s.hand(l, 7));
        c.due("to none", false, p.s.hand(l, Integer.MAX_VALUE));
        c.due("by one that follows", false, p.s.hand(to, l));
        while (p.s.count(0) > 0) {
            p.s.step();
        }
        c.due("hand", true, p.s.hand(l, to));
        server(p, l, "hands over", 12, to);
        c.due("GO", 9, p.s.message(0, 2));
        c.due("to whom", to, p.s.message(0, 1));
        c.due("again", false, p.s.hand(l, to));
        c.due("members meanwhile", false, p.s.members(l, 7));
        c.due("learners meanwhile", false, p.s.learners(l, 1 << 5));
        // A request that comes meanwhile is sent to the one that it is handed to.
        for (int i = l; i > 0; i--) {
            p.s.delay(8, i, 1);
        }
        p.s.delay(8, l, 1);
        p.s.delay(l, 8, 1);
        int asking = p.ask(0, Play.GET, "k", "");
        p.s.run(2);
        c.due("its target", to, p.s.client(0, 1));
        int term = p.s.server(l, Play.TERM);
        p.s.run(1);
        server(p, to, "stands at once", 1, 2, 2, term + 1);
        p.s.run(30);
        server(p, to, "leads", 1, 3, 2, term + 1);
        server(p, l, "follows", 1, 0, 12, -1, 4, to);
        c.due("told", 1, p.told(asking));
    }

    /** Handed to one that is behind, it sends entries first; to one that does not take it, it leads on after 50. */
    private static void handingEnds() {
        Play p = Play.three(Play.rowFor(12));
        int l = p.awaitLeader();
        p.s.run(30);
        int to = (l + 1) % 3;
        p.s.part(1 << to);
        p.done(0, Play.PUT, "k", "v");
        p.s.part(0);
        while (p.findMessage(5) >= 0) {
            p.s.meddle(p.findMessage(5), 0, 0);
        }
        c.due("hand", true, p.s.hand(l, to));
        c.due("no GO yet", -1, p.findMessage(9));
        int term = p.s.server(l, Play.TERM);
        p.s.run(60);
        server(p, to, "leads", 1, 3, 2, term + 1);
        Play q = Play.three(Play.rowFor(12));
        int m = q.awaitLeader();
        q.s.run(30);
        int down = (m + 1) % 3;
        q.s.stop(down);
        c.due("hand", true, q.s.hand(m, down));
        int since = q.s.now();
        while (q.s.server(m, Play.HANDING) == down) {
            q.s.step();
        }
        c.isTrue("longer than 50", q.s.now() > since + 50);
        c.isTrue("no longer than a beat more", q.s.now() <= since + 61);
        server(q, m, "leads on", 1, 3);
        c.due("hand to the other one", true, q.s.hand(m, 3 - m - down));
    }

    /** Set at a beat, HANDING is still there at the fifth beat behind it, and gone at the sixth. */
    private static void handingLasts() {
        Play p = Play.three(Play.rowFor(12));
        int l = p.awaitLeader();
        p.s.run(30);
        int down = (l + 1) % 3;
        p.s.stop(down);
        int round = p.s.server(l, Play.ROUND);
        while (p.s.server(l, Play.ROUND) == round) {
            p.s.step();
        }
        c.due("hand", true, p.s.hand(l, down));
        p.s.run(50);
        server(p, l, "hands over still", 12, down, 14, round + 6);
        p.s.run(9);
        server(p, l, "hands over still", 12, down, 14, round + 6);
        p.s.run(1);
        server(p, l, "hands over no more", 12, -1, 14, round + 7);
    }

    /** GO comes so late that it is no voter any more: nothing happens. */
    private static void lateGo() {
        for (int leaves = 0; leaves < 2; leaves++) {
            Play p = Play.three(Play.rowFor(12));
            int l = p.awaitLeader();
            p.s.run(30);
            while (p.s.count(0) > 0) {
                p.s.step();
            }
            int to = (l + 1) % 3;
            c.due("hand", true, p.s.hand(l, to));
            c.due("later", true, p.s.meddle(p.findMessage(9), 2, 400));
            p.s.part(1 << to);
            p.s.run(70);
            p.s.part(0);
            p.s.run(100);
            server(p, l, "hands over no more", 12, -1);
            int term = p.s.server(l, Play.TERM);
            if (leaves == 1) {
                c.due("members", true, p.s.members(l, 7 & ~(1 << to)));
                p.s.run(50);
                c.due("learners", true, p.s.learners(l, 1 << to));
                p.s.run(50);
                server(p, to, "learns", 10, 7 & ~(1 << to) | 1 << 14 + to);
            } else {
                p.s.run(100);
            }
            while (p.findMessage(9) >= 0) {
                p.s.step();
            }
            server(p, to, "when GO has come", 1, leaves == 1 ? 0 : 2, 2, leaves == 1 ? term : term + 1);
        }
    }

    /** Who heard of a leader within the last fifty ticks grants nothing, unless it has begun again since. */
    private static void justHeard() {
        for (int again = 0; again < 2; again++) {
            Play p = Play.three(Play.rowFor(12));
            int l = p.awaitLeader();
            p.s.run(30);
            int one = (l + 1) % 3;
            int other = (l + 2) % 3;
            // The one is parted off until it asks; the other one heard of the leader a moment ago.
            p.s.part(1 << one);
            while (p.s.server(one, Play.ROLE) != 1) {
                p.s.step();
            }
            p.s.run(100);
            p.s.stop(l);
            int heard = p.s.now();
            p.s.part(0);
            if (again == 1) {
                p.s.stop(other);
                p.s.start(other);
            }
            boolean granted = false;
            boolean asked = false;
            while (p.s.now() < heard + 45) {
                int k = p.s.count(0) > 0 && p.s.message(0, 2) == 1 && p.s.message(0, 1) == other ? 1 : 0;
                p.s.step();
                asked |= k == 1;
                granted |= p.s.server(one, Play.ROLE) == 2;
            }
            // It is granted only by one that has begun again; and asked it was in each case, if its alarm rang so soon.
            if (asked) {
                seenAsked++;
                c.due("stands", again == 1, granted);
            }
        }
        c.due("asked in both cases, or in none", true, seenAsked != 1);
    }

    private static int seenAsked;

    /** Of what is told only the entries up to BASE + 250 are taken. */
    private static void toldTooMuch() {
        Play p = Play.three(Play.rowFor(12));
        int l = p.awaitLeader();
        p.s.run(30);
        int x = (l + 1) % 3;
        p.s.stop(3 - l - x);
        // Each time it is chosen by x, and parted off before it can tell its entry.
        p.s.part(1 << x);
        p.ask(0, Play.PUT, "k", "v");
        p.s.run(4);
        p.s.giveUp(0);
        int last = p.s.server(l, Play.LAST);
        for (int i = 0; i < 300 && last < 262; i++) {
            p.s.part(1 << x);
            while (p.s.server(l, Play.ROLE) == 3) {
                p.s.step();
            }
            p.s.part(0);
            while (p.s.server(l, Play.ROLE) != 3) {
                p.s.step();
            }
            last = p.s.server(l, Play.LAST);
        }
        server(p, l, "has many", 8, 0, 9, 262, 5, 1);
        server(p, x, "has one", 8, 0, 9, 1);
        p.s.part(0);
        p.s.run(1000);
        server(p, x, "takes no more", 8, 0, 9, 250, 5, 1, 7, 250);
        server(p, l, "leads on", 1, 3, 9, 262, 5, 1);
    }

    /** From 200 entries above BASE on commands are told BUSY, and come again in 20; members can't change. */
    private static void busy() {
        Play p = Play.three(Play.rowFor(12));
        int l = p.awaitLeader();
        p.s.run(30);
        int base = p.s.server(l, Play.BASE);
        for (int client = 0; client < 8; client++) {
            p.done(client, Play.PUT, "k", "v");
        }
        base = p.s.server(l, Play.BASE);
        p.s.part(127 & ~(1 << l));
        int asking = p.ask(0, Play.PUT, "k", "w");
        int have = p.s.server(l, Play.LAST) - base;
        for (int i = have + 1; i < 210; i++) {
            p.s.meddle(p.findMessage(10), 1, 0);
            if (i % 100 == 0) {
                p.s.run(2);
                p.s.meddle(p.findMessage(10), 1, 0);
                p.s.run(1);
            }
        }
        p.s.run(3);
        server(p, l, "is full", 8, base, 9, base + 200, 1, 3, 16, 32);
        c.due("members", false, p.s.members(l, 7));
        c.due("learners", false, p.s.learners(l, 8));
        int late = p.ask(1, Play.PUT, "k", "x");
        int asked = p.s.now();
        p.s.run(6);
        c.due("LAST", base + 200, p.s.server(l, Play.LAST));
        c.due("TRIES", 1, p.s.client(1, 5));
        p.s.run(19);
        c.due("TRIES", 1, p.s.client(1, 5));
        p.s.run(1);
        c.due("TRIES", 2, p.s.client(1, 5));
        c.due("its target", l, p.s.client(1, 1));
        c.due("now", asked + 26, p.s.now());
        p.s.part(0);
        c.due("told", 1, p.told(late));
        c.due("told", 1, p.told(asking));
        c.isTrue("the answer", "\1w".equals(p.answer(1)) || "\1v".equals(p.answer(1)));
    }

    /** A log of 300: who would lead with it steps down. One server alone, stopped before its first entry is agreed. */
    private static void fullLog() {
        Play p = new Play(1, 5L);
        p.awaitLeader();
        p.s.latency(0, 60);
        int last = p.s.server(0, Play.LAST);
        for (int i = 0; i < 400 && last < 300; i++) {
            p.s.stop(0);
            p.s.start(0);
            server(p, 0, "begun again", 9, last, 7, last, 5, 0, 8, 0);
            p.s.run(165);
            c.due("one entry more", last + 1, p.s.server(0, Play.LAST));
            server(p, 0, "leads", 1, 3);
            last = p.s.server(0, Play.LAST);
        }
        p.s.stop(0);
        p.s.start(0);
        int term = p.s.server(0, Play.TERM);
        p.s.run(400);
        server(p, 0, "never leads", 9, 300, 5, 0, 8, 0);
        c.isTrue("it stood", p.s.server(0, Play.TERM) > term + 1);
        c.isTrue("and stepped down", p.s.server(0, Play.ROLE) != 3);
    }

    /** Of more than 32 requests that wait the first one is dropped: it is never answered. */
    private static void manyWait() {
        Play p = Play.three(Play.rowFor(12));
        int l = p.awaitLeader();
        p.s.run(30);
        for (int i = 0; i < 3; i++) {
            p.s.delay(i, l, 30);
        }
        p.s.run(10);
        int asking = p.ask(0, Play.GET, "k", "");
        for (int i = 0; i < 31; i++) {
            p.s.meddle(p.findMessage(10), 1, 0);
        }
        p.s.run(3);
        server(p, l, "has many", 16, 32);
        int other = p.ask(1, Play.GET, "k", "");
        p.s.run(3);
        server(p, l, "has no more", 16, 32);
        while (p.s.server(l, Play.REQUESTS) == 32) {
            p.s.step();
        }
        server(p, l, "has answered all at once", 16, 0);
        int[] to = new int[16];
        for (int k = 0; k < p.s.count(0); k++) {
            to[p.s.message(k, 1)] += p.s.message(k, 2) == 11 ? 1 : 0;
        }
        c.due("replies to the first one", 31, to[8]);
        c.due("replies to the other one", 1, to[9]);
        c.due("told", 1, p.told(asking));
    }

    /** While it is dirty its letters wait, 32 at most. */
    private static void lettersWait() {
        Play p = Play.three(Play.rowFor(12));
        int l = p.awaitLeader();
        p.s.run(30);
        p.s.latency(l, 400);
        p.ask(0, Play.PUT, "k", "v");
        p.s.run(3);
        int most = 0;
        int before = p.s.count(1);
        for (int i = 0; i < 40 && p.s.server(l, Play.ROLE) == 3; i++) {
            p.s.run(3);
            for (int client = 1; client < 8; client++) {
                if (p.s.client(client, 0) == 1) {
                    p.s.giveUp(client);
                }
                p.ask(client, Play.PUT, "k", "w");
            }
            most = Math.max(most, p.s.server(l, Play.LETTERS));
        }
        c.isTrue("letters wait", most > 20);
        c.isTrue("at most 32", most <= 32);
        c.isTrue("none of them is on its way", p.s.count(1) > before);
        for (int k = 0; k < p.s.count(0); k++) {
            c.isTrue("from another one", p.s.message(k, 0) != l);
        }
        int lost = p.s.count(2);
        p.s.crash(l, 3L);
        c.due("lost with it, counted nowhere", lost, p.s.count(2));
        p.s.start(l);
        server(p, l, "has no letters", 15, 0);
    }
}
