/** The machine and the clients, through one server alone: promises 2 to 5, 23, 24 and 26 to 29. */
public final class MapTest {
    private static final Check c = new Check("MapTest");

    public static void main(String[] args) {
        tape();
        operations();
        order();
        reads();
        units();
        manyKeys();
        sessions();
        clients();
        repliesElsewhere();
        givingUp();
        history();
        twiceAndLate();
        c.finish();
    }

    private static Play alone() {
        Play p = new Play(1, 5L);
        p.awaitLeader();
        return p;
    }

    private static void same(String what, String want, String got) {
        c.isTrue(what + " is <" + got + ">, due is <" + want + ">", want.equals(got));
    }

    private static void tape() {
        Play p = alone();
        AgreedStore s = p.s;
        c.due("feed", 20, s.feed(0x01020304, 0x05060708, 0x090a0b0c, 0x0d0e0f10, 0xfffefdfc));
        c.due("end", 20, s.end(20));
        c.due("feed", 40, s.feed(0x41424344, 0x45464748, -1, -1, -1));
        c.due("end", 25, s.end(5));
        c.due("count(6)", 25, s.count(6));
        int asking = s.ask(0, Play.PUT, 19, 0);
        c.due("the tape then", 0, s.count(6));
        c.due("told", 1, p.told(asking));
        c.due("key", 19, s.key(0, 0));
        for (int i = 0; i < 16; i++) {
            c.due("byte " + i, i + 1, s.byteAt(i));
        }
        c.due("byte 16", 255, s.byteAt(16));
        c.due("byte 18", 253, s.byteAt(18));
        c.ioobe("byte 19", () -> s.byteAt(19));
        c.due("value", 6, s.value(0, 0));
        c.due("byte 0", 252, s.byteAt(0));
        c.due("byte 1", 'A', s.byteAt(1));
        c.due("byte 5", 'E', s.byteAt(5));
        c.ioobe("byte 6", () -> s.byteAt(6));
    }

    private static void operation(Play p, String what, int asking, String answer) {
        c.due(what + " told", 1, p.told(asking));
        same(what, answer, p.answer(0));
    }

    private static void operations() {
        Play p = alone();
        operation(p, "PUT", p.ask(0, Play.PUT, "k", "one"), "\0");
        operation(p, "PUT again", p.ask(0, Play.PUT, "k", ""), "\1one");
        operation(p, "PUT over nothing", p.ask(0, Play.PUT, "k", "two"), "\1");
        operation(p, "GET", p.ask(0, Play.GET, "k", ""), "\1two");
        operation(p, "GET of another", p.ask(0, Play.GET, "kk", ""), "\0");
        operation(p, "SWAP of another value", p.swap(0, "k", "tw", "x"), "\0two");
        operation(p, "SWAP of a longer value", p.swap(0, "k", "two2", "x"), "\0two");
        operation(p, "SWAP of none", p.swap(0, "j", "", "x"), "\3");
        operation(p, "SWAP", p.swap(0, "k", "two", "three"), "\1");
        operation(p, "GET", p.ask(0, Play.GET, "k", ""), "\1three");
        operation(p, "SWAP to nothing", p.swap(0, "k", "three", ""), "\1");
        operation(p, "GET", p.ask(0, Play.GET, "k", ""), "\1");
        operation(p, "SWAP from nothing", p.swap(0, "k", "", "four"), "\1");
        operation(p, "REMOVE", p.ask(0, Play.REMOVE, "k", ""), "\1four");
        operation(p, "REMOVE again", p.ask(0, Play.REMOVE, "k", ""), "\0");
        operation(p, "GET", p.ask(0, Play.GET, "k", ""), "\0");
        String big = Play.text('K', 32);
        operation(p, "PUT of the longest", p.ask(0, Play.PUT, big, Play.text('V', 100)), "\0");
        operation(p, "GET of the longest", p.ask(0, Play.GET, big, ""), "\1" + Play.text('V', 100));
        operation(p, "NEXT of the longest", p.ask(0, Play.NEXT, "A", ""),
                "\1" + (char) 32 + big + Play.text('V', 100));
        c.due("units", 9, p.s.server(0, Play.UNITS));
    }

    private static void order() {
        Play p = alone();
        String[] keys = {"b", "ba", "a", "\u00ff", "\0", "b\0", "\177", "\u0080", "az"};
        String[] ordered = {"\0", "a", "az", "b", "b\0", "ba", "\177", "\u0080", "\u00ff"};
        for (String k : keys) {
            p.done(0, Play.PUT, k, k + "!");
        }
        c.due("keys", keys.length, p.s.server(0, Play.KEYS));
        for (int k = 0; k < ordered.length; k++) {
            same("key " + k, ordered[k], p.key(0, k));
            same("value " + k, ordered[k] + "!", p.value(0, k));
        }
        operation(p, "NEXT", p.ask(0, Play.NEXT, "b", ""), "\1\1bb!");
        operation(p, "NEXT", p.ask(0, Play.NEXT, "b\1", ""), "\1\2baba!");
        operation(p, "NEXT", p.ask(0, Play.NEXT, "c", ""), "\1\1\177\177!");
        operation(p, "NEXT", p.ask(0, Play.NEXT, "\u00ff", ""), "\1\1\u00ff\u00ff!");
        operation(p, "NEXT behind all", p.ask(0, Play.NEXT, "\u00ff\0", ""), "\0");
        operation(p, "COUNT", p.ask(0, Play.COUNT, "a", "b"), "\2\0");
        operation(p, "COUNT", p.ask(0, Play.COUNT, "\0", "\u00ff"), "\10\0");
        operation(p, "COUNT", p.ask(0, Play.COUNT, "a", "\u00ff\0"), "\10\0");
        operation(p, "COUNT of none", p.ask(0, Play.COUNT, "b", "b"), "\0\0");
        operation(p, "COUNT backwards", p.ask(0, Play.COUNT, "\u00ff", "a"), "\0\0");
        p.done(0, Play.REMOVE, "b", "");
        same("key 3", "b\0", p.key(0, 3));
        same("value 3", "b\0!", p.value(0, 3));
        same("key 2", "az", p.key(0, 2));
        p.done(0, Play.PUT, "b", "new");
        same("value 3", "new", p.value(0, 3));
        same("key 8", "\u00ff", p.key(0, 8));
    }

    /** A read is told APPLIED as its place, a command the number of its entry. */
    private static void reads() {
        Play p = alone();
        int put = p.ask(0, Play.PUT, "k", "v");
        p.told(put);
        c.due("OPEN's place", 2, p.s.client(0, 2));
        c.due("PUT's place", 3, p.s.history(put, 5));
        int get = p.ask(1, Play.GET, "k", "");
        p.told(get);
        c.due("GET's place", 3, p.s.history(get, 5));
        c.due("LAST", 3, p.s.server(0, Play.LAST));
        c.due("sessions", 1, p.s.server(0, Play.SESSIONS));
        c.due("the reader has no session", -1, p.s.client(1, 2));
        // A read waits for the round behind the one that is: for the next beat.
        int round = p.s.server(0, Play.ROUND);
        int later = p.ask(1, Play.GET, "k", "");
        p.s.run(3);
        c.due("requests that wait", 1, p.s.server(0, Play.REQUESTS));
        while (p.s.server(0, Play.ROUND) == round) {
            c.due("told", 0, p.s.history(later, 4));
            p.s.step();
        }
        c.due("requests that wait", 0, p.s.server(0, Play.REQUESTS));
        p.s.run(3);
        c.due("told", 1, p.s.history(later, 4));
    }

    private static void units() {
        Play p = alone();
        int[][] sizes = {{1, 0, 1}, {1, 15, 1}, {1, 16, 2}, {16, 0, 1}, {17, 0, 2}, {32, 0, 2}, {32, 1, 3}, {32, 100, 9},
            {1, 31, 2}, {1, 32, 3}};
        for (int[] n : sizes) {
            p.done(0, Play.PUT, Play.text('u', n[0]), Play.text('v', n[1]));
            c.due("units of " + n[0] + " and " + n[1], n[2], p.s.server(0, Play.UNITS));
            p.done(0, Play.REMOVE, Play.text('u', n[0]), "");
            c.due("units of none", 0, p.s.server(0, Play.UNITS));
        }
        p.done(0, Play.PUT, "a", Play.text('v', 100));
        p.done(0, Play.PUT, "b", Play.text('v', 50));
        c.due("units", 11, p.s.server(0, Play.UNITS));
        p.done(0, Play.PUT, "a", "");
        c.due("units", 5, p.s.server(0, Play.UNITS));
        // Too many units: 77 keys of nine, and less than nine are left.
        Play q = alone();
        for (int i = 0; i < 77; i++) {
            String key = "" + (char) (i / 16 + 1) + (char) (i % 16 + 1) + Play.text('k', 30);
            q.ask(i % 8, Play.PUT, key, Play.text('v', 100));
            if (i % 8 == 7) {
                q.s.run(60);
            }
        }
        q.s.run(60);
        c.due("keys", 77, q.s.server(0, Play.KEYS));
        c.due("units", 693, q.s.server(0, Play.UNITS));
        operation(q, "PUT of eight", q.ask(0, Play.PUT, "x", Play.text('v', 100)), "\0");
        operation(q, "REMOVE", q.ask(0, Play.REMOVE, "x", ""), "\1" + Play.text('v', 100));
        operation(q, "PUT of one", q.ask(0, Play.PUT, "x", Play.text('v', 15)), "\0");
        operation(q, "PUT of seven", q.ask(0, Play.PUT, "y", Play.text('v', 96)), "\2");
        c.due("units", 694, q.s.server(0, Play.UNITS));
        operation(q, "PUT of six", q.ask(0, Play.PUT, "y", Play.text('v', 95)), "\0");
        c.due("units", 700, q.s.server(0, Play.UNITS));
        operation(q, "SWAP to two", q.swap(0, "x", Play.text('v', 15), Play.text('v', 16)), "\2");
        operation(q, "SWAP of another value", q.swap(0, "x", Play.text('v', 16), Play.text('v', 16)),
                "\0" + Play.text('v', 15));
        operation(q, "SWAP to one", q.swap(0, "x", Play.text('v', 15), "w"), "\1");
        operation(q, "PUT to two", q.ask(0, Play.PUT, "x", Play.text('v', 16)), "\2");
        operation(q, "GET", q.ask(0, Play.GET, "x", ""), "\1w");
        operation(q, "PUT to one", q.ask(0, Play.PUT, "x", ""), "\1w");
        operation(q, "a key more", q.ask(0, Play.PUT, "z", ""), "\2");
        c.due("units", 700, q.s.server(0, Play.UNITS));
    }

    private static void manyKeys() {
        Play p = alone();
        for (int i = 0; i < 128; i++) {
            p.ask(i % 8, Play.PUT, "" + (char) (127 - i), "v");
            if (i % 8 == 7) {
                p.s.run(40);
            }
        }
        p.s.run(60);
        c.due("keys", 128, p.s.server(0, Play.KEYS));
        operation(p, "one more", p.ask(0, Play.PUT, "\u00aa", ""), "\2");
        c.due("keys", 128, p.s.server(0, Play.KEYS));
        operation(p, "one that is there", p.ask(0, Play.PUT, "\0", "w"), "\1v");
        operation(p, "COUNT", p.ask(0, Play.COUNT, "\0", "\u00ff"), "\u0080\0");
        operation(p, "REMOVE", p.ask(0, Play.REMOVE, "\5", ""), "\1v");
        operation(p, "one more", p.ask(0, Play.PUT, "\u00aa", ""), "\0");
        same("the last key", "\u00aa", p.key(0, 127));
        same("the key at 5", "\6", p.key(0, 5));
        same("the first value", "w", p.value(0, 0));
    }

    /** Sixteen sessions: the one used the longest ago gives way, and what it asks is UNKNOWN. */
    private static void sessions() {
        Play p = alone();
        p.done(0, Play.PUT, "k", "v");
        p.done(1, Play.PUT, "k", "w");
        p.done(0, Play.PUT, "k", "x");
        int first = p.s.client(0, 2);
        int second = p.s.client(1, 2);
        c.due("session of 0", 2, first);
        c.due("session of 1", 4, second);
        for (int i = 0; i < 14; i++) {
            // Giving up a command, its session is gone; the next command opens another one.
            p.done(2, Play.PUT, "j", "" + i);
            p.ask(2, Play.PUT, "j", "");
            p.s.giveUp(2);
        }
        p.s.run(100);
        c.due("sessions", 16, p.s.server(0, Play.SESSIONS));
        c.due("0's SERIAL", 2, p.s.client(0, 3));
        int used = p.ask(0, Play.GET, "k", "");
        p.told(used);
        p.done(3, Play.PUT, "l", "");
        c.due("sessions", 16, p.s.server(0, Play.SESSIONS));
        int gone = p.ask(1, Play.PUT, "k", "y");
        c.due("UNCLEAR", 2, p.told(gone));
        c.due("its place", -1, p.s.history(gone, 5));
        c.due("no session", -1, p.s.client(1, 2));
        int there = p.ask(0, Play.PUT, "k", "z");
        c.due("DONE", 1, p.told(there));
        same("the value before", "\1x", p.answer(0));
        c.due("DONE with a new session", 1, p.done(1, Play.PUT, "k", "y"));
        same("the value before", "\1z", p.answer(1));
        c.due("SERIAL", 1, p.s.client(1, 3));
    }

    private static void clients() {
        Play p = alone();
        c.due("asked", 0, p.ask(5, Play.PUT, "k", "v"));
        client(p, 5, "asked", 1, 0, -1, 0, 1, 1);
        int k = p.findMessage(10);
        c.due("from", 13, p.s.message(k, 0));
        c.due("to", 0, p.s.message(k, 1));
        c.due("request number", 1, p.s.message(k, 3));
        while (p.s.client(5, 2) < 0) {
            p.s.step();
        }
        client(p, 5, "told its session", 1, 0, 2, 1, 2, 2);
        c.due("request number", 2, p.s.message(p.findMessage(10), 3));
        p.told(0);
        client(p, 5, "told", 0, 0, 2, 1, 2, 2);
        p.ask(5, Play.GET, "k", "");
        client(p, 5, "asked a read", 1, 0, 2, 1, 3, 1);
        p.told(1);
        p.ask(5, Play.REMOVE, "k", "");
        client(p, 5, "asked a command", 1, 0, 2, 2, 4, 1);
        p.told(2);
        client(p, 5, "told", 0, 0, 2, 2, 4, 1);
        client(p, 4, "another", 0, 0, -1, 0, 0, 0);
    }

    private static void client(Play p, int client, String when, int... want) {
        for (int what = 0; what < 6; what++) {
            c.due("client(" + client + ", " + what + ") " + when, want[what], p.s.client(client, what));
        }
    }

    /** Told NONE, a client goes to the next server in 5; told one, it asks that at once; unanswered, in 60 the next. */
    private static void repliesElsewhere() {
        Play p = new Play(7, 5L);
        p.ask(0, Play.GET, "k", "");
        p.s.run(6);
        client(p, 0, "told NONE", 1, 1, -1, 0, 1, 1);
        p.s.run(4);
        client(p, 0, "before its alarm", 1, 1, -1, 0, 1, 1);
        p.s.run(1);
        client(p, 0, "behind its alarm", 1, 1, -1, 0, 1, 2);
        c.due("to whom", 1, p.s.message(p.findMessage(10), 1));
        Play q = Play.three(Play.rowFor(12));
        int l = q.awaitLeader();
        c.due("the leader", 0, l);
        q.s.run(20);
        for (int i = 1; i < 3; i++) {
            c.due("whom a server follows", 0, q.s.server(i, Play.LEADER));
        }
        // Server 0 is stopped at once when a request is on its way: in 60 the client turns to 1, which names 0.
        q.s.stop(0);
        int asking = q.ask(0, Play.GET, "k", "");
        q.s.run(59);
        client(q, 0, "before it is impatient", 1, 0, -1, 0, 1, 1);
        q.s.run(1);
        client(q, 0, "impatient", 1, 1, -1, 0, 1, 2);
        q.s.start(0);
        q.told(asking);
        c.due("DONE", 1, q.s.history(asking, 4));
        c.due("its target", q.leader(), q.s.client(0, 1));
        // A leader that is asked directly or through one that follows it.
        Play r = Play.three(Play.rowFor(12));
        r.awaitLeader();
        r.s.run(20);
        r.s.part(1 << 8);
        int other = r.ask(0, Play.GET, "k", "");
        r.s.run(60);
        r.s.part(0);
        r.s.run(60);
        client(r, 0, "sent to 2", 1, 2, -1, 0, 1, 3);
        r.s.run(6);
        client(r, 0, "sent to 0", 1, 0, -1, 0, 1, 4);
        c.due("told", 1, r.told(other));
        // Behind server 6 comes 0.
        Play t = new Play(7, 5L);
        for (int i = 0; i < 7; i++) {
            t.s.stop(i);
        }
        int none = t.ask(0, Play.GET, "k", "");
        for (int i = 1; i <= 39; i++) {
            t.s.run(60);
            client(t, 0, "unanswered " + i, 1, i % 7, -1, 0, 1, i + 1);
        }
        t.s.run(59);
        c.due("told nothing yet", 0, t.s.history(none, 4));
        t.s.run(1);
        client(t, 0, "after forty tries", 0, 40 % 7, -1, 0, 1, 41);
        c.due("GIVEN UP", 3, t.s.history(none, 4));
        c.due("its place", -1, t.s.history(none, 5));
        c.due("no event left", -1, t.s.step());
    }

    private static void givingUp() {
        Play p = alone();
        c.due("giveUp of one that is idle", false, p.s.giveUp(0));
        c.due("moments", 0, p.s.count(5));
        p.done(0, Play.PUT, "k", "v");
        int read = p.ask(0, Play.GET, "k", "");
        c.due("giveUp", true, p.s.giveUp(0));
        c.due("GIVEN UP", 3, p.s.history(read, 4));
        c.due("its session stays", 2, p.s.client(0, 2));
        c.due("giveUp again", false, p.s.giveUp(0));
        same("the answer is that before", "\0", p.answer(0));
        p.s.run(100);
        same("a late reply is nothing", "\0", p.answer(0));
        int command = p.ask(0, Play.PUT, "k", "w");
        c.due("giveUp", true, p.s.giveUp(0));
        c.due("UNCLEAR", 2, p.s.history(command, 4));
        c.due("its place", -1, p.s.history(command, 5));
        c.due("its session is gone", -1, p.s.client(0, 2));
        c.due("idle", 0, p.s.client(0, 0));
        p.s.run(100);
        c.due("no alarm", 0, p.s.client(0, 0));
        same("done all the same", "w", p.value(0, 0));
    }

    private static void history() {
        Play p = alone();
        int a = p.ask(3, Play.SWAP, "k", "");
        int b = p.ask(2, Play.GET, "k", "");
        int d = p.ask(1, Play.NEXT, "k", "");
        int[][] first = {{3, 1, 0, -1, 0, -1}, {2, 3, 1, -1, 0, -1}, {1, 5, 2, -1, 0, -1}};
        for (int i = 0; i < 3; i++) {
            for (int what = 0; what < 6; what++) {
                c.due("history(" + i + ", " + what + ")", first[i][what], p.s.history(i, what));
            }
        }
        c.due("askings", 3, p.s.count(4));
        c.due("moments", 3, p.s.count(5));
        p.s.giveUp(2);
        c.due("moment of telling", 3, p.s.history(b, 3));
        p.told(a);
        p.told(d);
        c.due("moments", 6, p.s.count(5));
        c.due("moments of the others' telling", 9, p.s.history(a, 3) + p.s.history(d, 3));
        c.due("moment of b's telling still", 3, p.s.history(b, 3));
        c.due("moment of asking", 6, p.s.history(p.ask(0, Play.GET, "x", ""), 2));
    }

    /** A command that comes twice is done once; one that comes late, behind another, is not done at all. */
    private static void twiceAndLate() {
        Play p = alone();
        p.done(0, Play.PUT, "k", "one");
        int last = p.s.server(0, Play.LAST);
        int two = p.ask(0, Play.PUT, "k", "two");
        int k = p.findMessage(10);
        p.s.meddle(k, 1, 0);
        p.s.meddle(k, 1, 0);
        p.s.meddle(p.findMessage(10), 2, 200);
        p.told(two);
        same("the answer", "\1one", p.answer(0));
        c.due("the place", last + 1, p.s.history(two, 5));
        p.s.run(20);
        c.due("LAST", last + 2, p.s.server(0, Play.LAST));
        same("the answer", "\1one", p.answer(0));
        p.done(0, Play.PUT, "k", "three");
        same("the answer", "\1two", p.answer(0));
        int before = p.s.server(0, Play.APPLIED);
        p.s.run(250);
        c.due("the late one is an entry", before + 1, p.s.server(0, Play.APPLIED));
        same("and nothing is done", "three", p.value(0, 0));
        same("the answer", "\1two", p.answer(0));
    }
}
