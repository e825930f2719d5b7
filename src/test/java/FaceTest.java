/** Wrong inputs of every call: which exception, and that of several the one that is named first is thrown. */
public final class FaceTest {
    private static final Check c = new Check("FaceTest");

    public static void main(String[] args) {
        c.due("NONE", -1, AgreedStore.NONE);
        tape();
        asking();
        net();
        servers();
        looking();
        c.finish();
    }

    private static void tape() {
        AgreedStore s = new AgreedStore(3, 1L);
        c.ise("end(20) of an empty tape", () -> s.end(20));
        c.iae("end(-1) of an empty tape", () -> s.end(-1));
        c.iae("end(21) of an empty tape", () -> s.end(21));
        for (int i = 1; i <= 20; i++) {
            c.due("feed", 20 * i, s.feed(i, i, i, i, i));
        }
        c.ise("feed of a full tape", () -> s.feed(0, 0, 0, 0, 0));
        c.due("count(6)", 400, s.count(6));
        c.due("end(19)", 399, s.end(19));
        c.ise("feed of a tape with 399", () -> s.feed(0, 0, 0, 0, 0));
        c.due("end(0)", 379, s.end(0));
        c.due("feed", 399, s.feed(0, 0, 0, 0, 0));
        AgreedStore t = new AgreedStore(3, 1L);
        t.feed(0, 0, 0, 0, 0);
        c.due("end(19)", 19, t.end(19));
        c.ise("end(20) of 19", () -> t.end(20));
        c.due("count(6)", 19, t.count(6));
    }

    private static void asking() {
        Play p = new Play(3, 1L);
        AgreedStore s = p.s;
        for (int client : new int[] {-1, 8, 100, Integer.MIN_VALUE, Integer.MAX_VALUE}) {
            p.tape("k");
            c.ioobe("ask of no client", () -> s.ask(client, 99, 99, 99));
            c.due("the tape then", 0, s.count(6));
            c.ioobe("giveUp of no client", () -> s.giveUp(client) ? 1 : 0);
            c.ioobe("client() of no client", () -> s.client(client, 0));
            c.ioobe("answer() of no client", () -> s.answer(client));
        }
        refused(p, "kind -1", "k", -1, 1, 0);
        refused(p, "kind 6", "k", 6, 1, 0);
        refused(p, "an empty tape", "", 0, 1, 0);
        refused(p, "k 0", "k", 0, 0, 0);
        refused(p, "k -1", "k", 0, -1, 0);
        refused(p, "k the greatest int", "k", 0, Integer.MAX_VALUE, 0);
        refused(p, "k 33", Play.text('k', 33), 0, 33, 0);
        refused(p, "a value of 101", "k" + Play.text('v', 101), 0, 1, 0);
        refused(p, "v of PUT", "kvv", 0, 1, 1);
        refused(p, "v of REMOVE", "k", 2, 1, 1);
        refused(p, "v of GET", "k", 3, 1, -1);
        refused(p, "v of COUNT", "kk", 4, 1, 1);
        refused(p, "v of NEXT", "k", 5, 1, 1);
        refused(p, "more than the key for REMOVE", "kk", 2, 1, 0);
        refused(p, "more than the key for GET", "kk", 3, 1, 0);
        refused(p, "more than the key for NEXT", "kk", 5, 1, 0);
        refused(p, "less than the key for GET", "k", 3, 2, 0);
        refused(p, "no second key of COUNT", "k", 4, 1, 0);
        refused(p, "a second key of 33", Play.text('k', 34), 4, 1, 0);
        refused(p, "v -1 of SWAP", "kvv", 1, 1, -1);
        refused(p, "v 101 of SWAP", "k" + Play.text('v', 102), 1, 1, 101);
        refused(p, "v above the tape of SWAP", "kv", 1, 1, 2);
        refused(p, "v the greatest int of SWAP", "kv", 1, 1, Integer.MAX_VALUE);
        refused(p, "a new value of 101 of SWAP", "k" + Play.text('v', 102), 1, 1, 1);
        c.due("asked", 0, s.count(4));
        c.due("PUT", 0, p.ask(3, 0, Play.text('k', 32), Play.text('v', 100)));
        p.tape("kk");
        c.iae("wrong and it waits", () -> s.ask(3, 3, 1, 0));
        p.tape("k");
        c.ise("it waits", () -> s.ask(3, 3, 1, 0));
        c.due("the tape then", 0, s.count(6));
        c.due("SWAP", 1, p.swap(0, Play.text('k', 32), Play.text('v', 100), Play.text('w', 100)));
        c.due("SWAP of nothing by nothing", 2, p.swap(1, "k", "", ""));
        c.due("COUNT", 3, p.ask(2, 4, Play.text('k', 32), Play.text('l', 32)));
        c.due("PUT of nothing", 4, p.ask(4, 0, "k", ""));
        for (int i : new int[] {-1, 5, 1024}) {
            c.ioobe("history of no asking", () -> s.history(i, 0));
        }
        c.ioobe("history(0, -1)", () -> s.history(0, -1));
        c.ioobe("history(0, 6)", () -> s.history(0, 6));
    }

    private static void refused(Play p, String what, String tape, int kind, int k, int v) {
        p.tape(tape);
        c.iae("ask with " + what, () -> p.s.ask(3, kind, k, v));
        c.due("the tape after " + what, 0, p.s.count(6));
    }

    private static void net() {
        AgreedStore s = new AgreedStore(3, 1L);
        for (int n : new int[] {0, -1, 1001, Integer.MIN_VALUE, Integer.MAX_VALUE}) {
            c.iae("run(" + n + ")", () -> s.run(n));
        }
        c.due("now", 0, s.now());
        for (int e : new int[] {-1, 7, 16, Integer.MAX_VALUE}) {
            c.ioobe("delay from " + e, () -> s.delay(e, 0, 0));
            c.ioobe("delay to " + e, () -> s.delay(0, e, 0));
        }
        for (int t : new int[] {0, -1, 1001}) {
            c.iae("delay of " + t, () -> s.delay(0, 1, t));
        }
        c.due("delay", 3, s.delay(0, 1, 1));
        c.due("delay", 1, s.delay(0, 1, 1000));
        c.due("delay", 1000, s.delay(0, 1, 3));
        c.due("delay of another link", 3, s.delay(1, 0, 4));
        c.due("delay to itself", 3, s.delay(15, 15, 5));
        for (int set : new int[] {-1, 65536, Integer.MIN_VALUE}) {
            c.iae("part(" + set + ")", () -> s.part(set));
        }
        c.due("part", 0, s.part(65535));
        c.due("part", 65535, s.part(0));
        noise(s, -1, 0, 0);
        noise(s, 1001, 0, 0);
        noise(s, 0, -1, 0);
        noise(s, 0, 1001, 0);
        noise(s, 0, 0, -1);
        noise(s, 0, 0, 1001);
        s.noise(1000, 1000, 1000, -1L);
        s.noise(0, 0, 0, 0L);
        c.iae("meddle, what -1", () -> s.meddle(0, -1, 0) ? 1 : 0);
        c.iae("meddle, what 3", () -> s.meddle(0, 3, 0) ? 1 : 0);
        for (int what = 0; what < 3; what++) {
            int w = what;
            c.iae("meddle, ticks -1", () -> s.meddle(0, w, -1) ? 1 : 0);
            c.iae("meddle, ticks 1001", () -> s.meddle(-1, w, 1001) ? 1 : 0);
            c.due("meddle with none", false, s.meddle(0, w, 1000));
            c.due("meddle with -1", false, s.meddle(-1, w, 0));
        }
    }

    private static void noise(AgreedStore s, int loss, int twice, int spread) {
        c.iae("noise(" + loss + ", " + twice + ", " + spread + ")", () -> {
            s.noise(loss, twice, spread, 0L);
            return 0;
        });
    }

    private static void servers() {
        AgreedStore s = new AgreedStore(3, 1L);
        for (int x : new int[] {-1, 7, 8, Integer.MIN_VALUE, Integer.MAX_VALUE}) {
            c.ioobe("latency", () -> s.latency(x, -1));
            c.ioobe("crash", () -> s.crash(x, 0L) ? 1 : 0);
            c.ioobe("stop", () -> s.stop(x) ? 1 : 0);
            c.ioobe("start", () -> s.start(x) ? 1 : 0);
            c.ioobe("members", () -> s.members(x, 1) ? 1 : 0);
            c.ioobe("learners", () -> s.learners(x, 1) ? 1 : 0);
            c.ioobe("hand", () -> s.hand(x, 1) ? 1 : 0);
            c.ioobe("server", () -> s.server(x, 0));
            c.ioobe("entry", () -> s.entry(x, 0, 0));
            c.ioobe("file", () -> s.file(x, 0, 0));
            c.ioobe("key", () -> s.key(x, 0));
            c.ioobe("value", () -> s.value(x, 0));
        }
        c.iae("latency -1", () -> s.latency(6, -1));
        c.iae("latency 1001", () -> s.latency(6, 1001));
        c.due("latency", 2, s.latency(6, 0));
        c.due("latency", 0, s.latency(6, 1000));
        c.due("latency", 1000, s.latency(6, 2));
        c.due("latency of another", 2, s.latency(0, 2));
        c.due("start of one that is up", false, s.start(0));
        c.due("stop", true, s.stop(0));
        c.due("stop of one that is down", false, s.stop(0));
        c.due("crash of one that is down", false, s.crash(0, 0L));
        c.due("start", true, s.start(0));
        c.due("crash", true, s.crash(0, 0L));
        c.due("members of one that is down", false, s.members(0, 1));
        c.due("learners of one that is down", false, s.learners(0, 8));
        c.due("hand of one that is down", false, s.hand(0, 1));
        c.due("members of one that follows", false, s.members(1, 1));
        c.due("learners of one that follows", false, s.learners(1, 8));
        c.due("hand of one that follows", false, s.hand(1, 2));
    }

    private static void looking() {
        AgreedStore s = new AgreedStore(3, 1L);
        c.ioobe("server(0, -1)", () -> s.server(0, -1));
        c.ioobe("server(0, 21)", () -> s.server(0, 21));
        for (int what = 0; what < 3; what++) {
            int w = what;
            c.ioobe("entry(0, 1, " + w + ")", () -> s.entry(0, 1, w));
            c.ioobe("entry(0, -1, " + w + ")", () -> s.entry(0, -1, w));
        }
        c.due("entry(0, 0, 0)", 0, s.entry(0, 0, 0));
        c.ioobe("entry(0, 0, 1)", () -> s.entry(0, 0, 1));
        c.ioobe("entry(0, 0, 2)", () -> s.entry(0, 0, 2));
        c.ioobe("entry(0, 0, 3)", () -> s.entry(0, 0, 3));
        c.ioobe("entry(0, 0, -1)", () -> s.entry(0, 0, -1));
        c.ioobe("file(0, -1, 0)", () -> s.file(0, -1, 0));
        c.ioobe("file(0, 16, 0)", () -> s.file(0, 16, 0));
        c.ioobe("file(0, 0, -1)", () -> s.file(0, 0, -1));
        c.ioobe("file(0, 0, 5)", () -> s.file(0, 0, 5));
        c.ioobe("key(0, 0)", () -> s.key(0, 0));
        c.ioobe("key(0, -1)", () -> s.key(0, -1));
        c.ioobe("value(0, 0)", () -> s.value(0, 0));
        c.ioobe("value(0, -1)", () -> s.value(0, -1));
        c.ioobe("message(0, 0)", () -> s.message(0, 0));
        c.ioobe("message(-1, 0)", () -> s.message(-1, 0));
        c.ioobe("client(0, -1)", () -> s.client(0, -1));
        c.ioobe("client(0, 6)", () -> s.client(0, 6));
        c.ioobe("byteAt(0)", () -> s.byteAt(0));
        c.ioobe("byteAt(-1)", () -> s.byteAt(-1));
        c.due("answer(7) before there was one", 0, s.answer(7));
        c.ioobe("byteAt(0) of that", () -> s.byteAt(0));
        for (int what : new int[] {-1, 7, Integer.MIN_VALUE, Integer.MAX_VALUE}) {
            c.due("count(" + what + ")", -1, s.count(what));
        }
        s.stop(0);
        c.due("server(0, 0) of one that is down", 0, s.server(0, 0));
        for (int what = 1; what <= 20; what++) {
            c.due("server(0, " + what + ") of one that is down", -1, s.server(0, what));
        }
        c.ioobe("server(0, 21) of one that is down", () -> s.server(0, 21));
        c.ioobe("entry(0, 0, 0) of one that is down", () -> s.entry(0, 0, 0));
        c.due("file(0, 15, 4) of one that is down", 0, s.file(0, 15, 4));
        Play p = new Play(1, 5L);
        p.awaitLeader();
        p.done(0, Play.PUT, "a", "b");
        c.due("key", 1, p.s.key(0, 0));
        c.ioobe("key(0, 1)", () -> p.s.key(0, 1));
        c.ioobe("value(0, 1)", () -> p.s.value(0, 1));
        c.due("the result is the last that did not throw", 'a', p.s.byteAt(0));
        p.s.stop(0);
        c.ioobe("key of one that is down", () -> p.s.key(0, 0));
        c.ioobe("value of one that is down", () -> p.s.value(0, 0));
        p.ask(0, Play.GET, "a", "");
        c.ioobe("message(0, -1)", () -> p.s.message(0, -1));
        c.ioobe("message(0, 5)", () -> p.s.message(0, 5));
        c.ioobe("message behind the last", () -> p.s.message(p.s.count(0), 0));
    }
}
