import java.util.Random;

/**
 * Runs of random calls, answered by AgreedStore and by Model, the document's literal reading: all answers and all
 * that can be looked at must be the same. Arguments: the first run's number, how many runs.
 */
public final class ModelTest {
    private final Random random;
    private final AgreedStore store;
    private final Model model;
    private final int run;
    private int wrong;
    private String last = "";
    private final StringBuilder told = new StringBuilder();
    // what this run is like
    private final int servers;
    private final int keyBytes;
    private final int keySorts;
    private final int valueMost;
    private final int crashes;
    private final int nets;
    private final int changes;
    private final int steps;
    private final int ticksMost;
    private final int asksWeight;
    private final boolean bigKeys;
    private final int bursts;
    private final int most;
    private final boolean heavy;

    private ModelTest(int run) {
        this.run = run;
        random = new Random(run * 7919L + 13);
        servers = random.nextInt(10) == 0 ? random.nextInt(12) - 2 : 1 + random.nextInt(7);
        long row = random.nextInt(4) == 0 ? random.nextInt(5) : random.nextLong();
        keyBytes = 1 + random.nextInt(32);
        keySorts = random.nextInt(3) == 0 ? 256 : 2 + random.nextInt(12);
        valueMost = random.nextInt(3) == 0 ? 100 : random.nextInt(40);
        crashes = random.nextInt(3) * random.nextInt(12);
        nets = random.nextInt(3) * random.nextInt(12);
        changes = random.nextInt(3) * random.nextInt(8);
        steps = random.nextInt(2) * random.nextInt(40);
        ticksMost = new int[] {5, 20, 60, 200, 1000}[random.nextInt(5)];
        asksWeight = 5 + random.nextInt(60);
        bigKeys = random.nextInt(2) == 0;
        bursts = random.nextInt(4) == 0 ? 1 + random.nextInt(2) : 0;
        most = run % 8 == 7 ? 2500 : 512;
        heavy = run % 5 == 4;
        store = new AgreedStore(servers, row);
        model = new Model(servers, row);
    }

    interface Call {
        long get();
    }

    private long answerOf(Call c) {
        try {
            return c.get();
        } catch (IndexOutOfBoundsException e) {
            return e.getClass() == IndexOutOfBoundsException.class ? Long.MIN_VALUE + 1 : Long.MIN_VALUE + 7;
        } catch (IllegalArgumentException e) {
            return e.getClass() == IllegalArgumentException.class ? Long.MIN_VALUE + 2 : Long.MIN_VALUE + 8;
        } catch (IllegalStateException e) {
            return e.getClass() == IllegalStateException.class ? Long.MIN_VALUE + 3 : Long.MIN_VALUE + 9;
        }
    }

    private void same(String what, Call ours, Call due) {
        long got = answerOf(ours);
        long want = answerOf(due);
        if (got != want) {
            wrong++;
            if (wrong < 6) {
                System.out.println("run " + run + " after " + last + ": " + what + " answered " + got
                        + ", the model says " + want);
            }
        }
    }

    private void called(String what, Call ours, Call due) {
        last = what;
        told.append(what).append('\n');
        same(what, ours, due);
    }

    private static long number(boolean b) {
        return b ? 1 : 0;
    }

    private int around(int low, int high) {
        return random.nextInt(30) == 0 ? low - 2 + random.nextInt(high - low + 5) : low + random.nextInt(high - low + 1);
    }

    private void feedBytes(byte[] all) {
        for (int at = 0; at < all.length; at += 20) {
            int[] five = new int[5];
            for (int i = 0; i < 20; i++) {
                int b = at + i < all.length ? all[at + i] & 255 : 0;
                five[i / 4] |= b << 24 - 8 * (i % 4);
            }
            called("feed", () -> store.feed(five[0], five[1], five[2], five[3], five[4]),
                    () -> model.feed(five[0], five[1], five[2], five[3], five[4]));
            calls++;
            if (all.length - at < 20) {
                int n = all.length - at;
                called("end(" + n + ")", () -> store.end(n), () -> model.end(n));
                calls++;
            }
        }
    }

    private int calls;

    private byte[] someKey() {
        int n = bigKeys ? keyBytes : 1 + random.nextInt(keyBytes);
        byte[] k = new byte[n];
        for (int i = 0; i < n; i++) {
            k[i] = (byte) (i < 2 ? random.nextInt(keySorts) : random.nextInt(2) * 255);
            if (bigKeys && i >= 2) {
                k[i] = (byte) 7;
            }
        }
        return k;
    }

    private byte[] someValue() {
        int n = heavy ? 100 - random.nextInt(2) * random.nextInt(20) : random.nextInt(valueMost + 1);
        if (!heavy && random.nextInt(3) == 0) {
            n = Math.min(n, 3);
        }
        byte[] v = new byte[n];
        for (int i = 0; i < n; i++) {
            v[i] = (byte) random.nextInt(random.nextInt(8) == 0 ? 256 : 3);
        }
        return v;
    }

    private void ask() {
        int client = around(0, 7);
        int kind = random.nextInt(10);
        kind = kind > 5 ? 0 : kind;
        byte[] key = someKey();
        byte[] rest = kind == 0 ? someValue() : kind == 4 ? someKey() : new byte[0];
        int v = 0;
        if (kind == 1) {
            byte[] expected = random.nextInt(2) == 0 ? lastValue : someValue();
            v = expected.length;
            rest = Model.join(expected, someValue());
        }
        if (kind == 0) {
            lastValue = rest;
        }
        feedBytes(Model.join(key, rest));
        int kk = random.nextInt(40) == 0 ? around(0, 33) : key.length;
        int vv = random.nextInt(40) == 0 ? around(0, 101) : v;
        int ki = random.nextInt(60) == 0 ? around(0, 5) : kind;
        called("ask(" + client + ", " + ki + ", " + kk + ", " + vv + ")", () -> store.ask(client, ki, kk, vv),
                () -> model.ask(client, ki, kk, vv));
        calls++;
    }

    private byte[] lastValue = {};

    private int endpoint() {
        return random.nextInt(2) == 0 ? around(0, 6) : around(8, 15);
    }

    private void runSome() {
        int n = 1 + random.nextInt(ticksMost);
        called("run(" + n + ")", () -> store.run(n), () -> model.run(n));
    }

    private void changeNet() {
        int what = random.nextInt(8);
        if (what == 0) {
            int from = endpoint();
            int to = endpoint();
            int ticks = random.nextInt(4) == 0 ? around(1, 1000) : around(1, 12);
            called("delay", () -> store.delay(from, to, ticks), () -> model.delay(from, to, ticks));
        } else if (what <= 2) {
            int set = random.nextInt(2) == 0 ? 0 : random.nextInt(3) == 0 ? random.nextInt(65536) : random.nextInt(128);
            called("part(" + set + ")", () -> store.part(set), () -> model.part(set));
        } else if (what == 3) {
            int loss = random.nextInt(2) * random.nextInt(400);
            int twice = random.nextInt(2) * around(0, 1000);
            int spread = random.nextInt(2) * random.nextInt(60);
            long draw = random.nextLong();
            called("noise", () -> noise(loss, twice, spread, draw), () -> noiseOfModel(loss, twice, spread, draw));
        } else if (what == 4) {
            called("noise(0, 0, 0)", () -> noise(0, 0, 0, 1), () -> noiseOfModel(0, 0, 0, 1));
        } else if (what == 5) {
            int s = around(0, 6);
            int ticks = random.nextInt(3) == 0 ? around(0, 1000) : random.nextInt(30);
            called("latency(" + s + ", " + ticks + ")", () -> store.latency(s, ticks), () -> model.latency(s, ticks));
        } else {
            int k = around(0, Math.max(1, Math.min(12, store.count(0))));
            int how = around(0, 2);
            int ticks = around(0, random.nextInt(4) == 0 ? 1000 : 40);
            called("meddle(" + k + ", " + how + ", " + ticks + ")", () -> number(store.meddle(k, how, ticks)),
                    () -> number(model.meddle(k, how, ticks)));
        }
    }

    private long noise(int loss, int twice, int spread, long draw) {
        store.noise(loss, twice, spread, draw);
        return 0;
    }

    private long noiseOfModel(int loss, int twice, int spread, long draw) {
        model.noise(loss, twice, spread, draw);
        return 0;
    }

    private int someLeader() {
        int from = random.nextInt(7);
        for (int i = 0; i < 7; i++) {
            int s = (from + i) % 7;
            if (store.server(s, 1) == 3) {
                return s;
            }
        }
        return from;
    }

    private void crashOrStart() {
        int s = random.nextInt(3) == 0 ? someLeader() : around(0, 6);
        int what = random.nextInt(5);
        long row = random.nextLong();
        if (what == 0) {
            called("stop(" + s + ")", () -> number(store.stop(s)), () -> number(model.stop(s)));
        } else if (what <= 2) {
            called("crash(" + s + ", " + row + ")", () -> number(store.crash(s, row)),
                    () -> number(model.crash(s, row)));
        }
        if (what >= 3 || random.nextInt(2) == 0) {
            called("start(" + s + ")", () -> number(store.start(s)), () -> number(model.start(s)));
        }
    }

    private void change() {
        int s = random.nextInt(5) == 0 ? around(0, 6) : someLeader();
        int set = random.nextInt(2) == 0 ? around(0, 127) : 1 << random.nextInt(7);
        int what = random.nextInt(4);
        if (what == 0) {
            int old = store.server(random.nextInt(7), 10);
            int wanted = old == AgreedStore.NONE ? set
                    : random.nextInt(2) == 0 ? (old | old >> 14) & 127 & ~(1 << random.nextInt(9)) : old & set & 127;
            int all = random.nextInt(3) == 0 ? set : wanted;
            called("members(" + s + ", " + all + ")", () -> number(store.members(s, all)),
                    () -> number(model.members(s, all)));
        } else if (what <= 2) {
            int old = store.server(s >= 0 && s < 7 ? s : 0, 10);
            int wanted = old == AgreedStore.NONE || random.nextInt(3) == 0 ? set : ~old & (set | random.nextInt(128)) & 127;
            called("learners(" + s + ", " + wanted + ")", () -> number(store.learners(s, wanted)),
                    () -> number(model.learners(s, wanted)));
        } else {
            int to = around(0, 6);
            called("hand(" + s + ", " + to + ")", () -> number(store.hand(s, to)), () -> number(model.hand(s, to)));
        }
    }

    /** Requests are doubled again and again, while (mostly) the leader reaches no other server. */
    private void burst() {
        int leader = someLeader();
        int set = random.nextInt(4) == 0 ? 0 : 0xFF00 | 1 << leader | (random.nextInt(3) == 0 ? 1 << random.nextInt(7) : 0);
        called("part(" + set + ")", () -> store.part(set), () -> model.part(set));
        for (int i = 0; i < 3; i++) {
            ask();
        }
        int many = 20 + random.nextInt(250);
        for (int i = 0; i < many; i++) {
            int way = model.count(0);
            int from = random.nextInt(way + 1);
            int chosen = 0;
            for (int j = 0; j < way; j++) {
                if (model.message((from + j) % way, 2) == 10) {
                    chosen = (from + j) % way;
                }
            }
            int k = chosen;
            called("meddle(" + k + ", 1, 0)", () -> number(store.meddle(k, 1, 0)), () -> number(model.meddle(k, 1, 0)));
            if (random.nextInt(3) == 0) {
                called("step()", () -> store.step(), () -> model.step());
            }
            calls++;
        }
        if (random.nextInt(2) == 0) {
            called("part(0)", () -> store.part(0), () -> model.part(0));
        }
    }

    /** A copy of a request comes long after it. */
    private void late() {
        int way = model.count(0);
        for (int j = 0; j < way; j++) {
            int k = j;
            if (model.message(k, 2) == 10) {
                int ticks = random.nextInt(300);
                called("meddle(" + k + ", 1, 0)", () -> number(store.meddle(k, 1, 0)),
                        () -> number(model.meddle(k, 1, 0)));
                int last = k + 1;
                called("meddle(" + last + ", 2, " + ticks + ")", () -> number(store.meddle(last, 2, ticks)),
                        () -> number(model.meddle(last, 2, ticks)));
                calls += 2;
                return;
            }
        }
    }

    /** All servers go down and come up again. */
    private void restartAll() {
        for (int i = 0; i < 7; i++) {
            int s = i;
            long row = random.nextLong();
            called("crash(" + s + ", " + row + ")", () -> number(store.crash(s, row)),
                    () -> number(model.crash(s, row)));
            if (random.nextInt(5) > 0) {
                called("start(" + s + ")", () -> number(store.start(s)), () -> number(model.start(s)));
            }
        }
    }

    private void call() {
        int all = asksWeight + 40 + crashes + nets + changes + steps + 3;
        int what = random.nextInt(all);
        calls++;
        if (bursts > 0 && random.nextInt(60) < bursts) {
            burst();
        } else if (random.nextInt(12) == 0) {
            late();
        } else if (what < asksWeight) {
            calls--;
            ask();
        } else if (what < asksWeight + 40) {
            runSome();
        } else if (what < asksWeight + 40 + crashes) {
            if (random.nextInt(12) == 0) {
                restartAll();
            } else {
                crashOrStart();
            }
        } else if (what < asksWeight + 40 + crashes + nets) {
            changeNet();
        } else if (what < asksWeight + 40 + crashes + nets + changes) {
            change();
        } else if (what < all - 3) {
            called("step()", () -> store.step(), () -> model.step());
        } else if (what == all - 3) {
            int c = around(0, 7);
            called("giveUp(" + c + ")", () -> number(store.giveUp(c)), () -> number(model.giveUp(c)));
        } else if (what == all - 2) {
            int n = random.nextInt(24) - 2;
            called("end(" + n + ")", () -> store.end(n), () -> model.end(n));
        } else {
            called("feed", () -> store.feed(1, 2, 3, 4, 5), () -> model.feed(1, 2, 3, 4, 5));
        }
    }

    private void look(boolean whole) {
        same("now", () -> store.now(), () -> model.now());
        for (int w = -1; w < 8; w++) {
            int what = w;
            same("count(" + what + ")", () -> store.count(what), () -> model.count(what));
        }
        for (int s = 0; s < 7; s++) {
            lookAtServer(s, whole);
        }
        for (int c = 0; c < 8; c++) {
            int client = c;
            for (int w = 0; w < 6; w++) {
                int what = w;
                same("client(" + c + ", " + w + ")", () -> store.client(client, what),
                        () -> model.client(client, what));
            }
            same("answer(" + c + ")", () -> store.answer(client), () -> model.answer(client));
            lookAtResult();
        }
        int history = model.count(4);
        for (int i = whole ? 0 : Math.max(0, history - 10); i <= history; i++) {
            for (int w = 0; w < 6; w++) {
                int asking = i;
                int what = w;
                same("history(" + i + ", " + w + ")", () -> store.history(asking, what),
                        () -> model.history(asking, what));
            }
        }
        int way = model.count(0);
        for (int k = 0; k <= way && (whole || k < 3); k++) {
            for (int w = 0; w < 5; w++) {
                int message = k;
                int what = w;
                same("message(" + k + ", " + w + ")", () -> store.message(message, what),
                        () -> model.message(message, what));
            }
        }
    }

    private void lookAtServer(int s, boolean whole) {
        for (int w = 0; w < 21; w++) {
            int what = w;
            same("server(" + s + ", " + w + ")", () -> store.server(s, what), () -> model.server(s, what));
        }
        for (int f = 0; f < 16; f++) {
            for (int w = 0; w < 5; w++) {
                int file = f;
                int what = w;
                same("file(" + s + ", " + f + ", " + w + ")", () -> store.file(s, file, what),
                        () -> model.file(s, file, what));
            }
        }
        if (!whole) {
            return;
        }
        int base = Math.max(0, model.server(s, 8));
        int lastEntry = Math.max(0, model.server(s, 9));
        for (int i = base - 1; i <= lastEntry + 1; i++) {
            for (int w = 0; w < 3; w++) {
                int entry = i;
                int what = w;
                same("entry(" + s + ", " + i + ", " + w + ")", () -> store.entry(s, entry, what),
                        () -> model.entry(s, entry, what));
            }
        }
        int keys = model.server(s, 18);
        for (int k = -1; k <= keys; k++) {
            int key = k;
            same("key(" + s + ", " + k + ")", () -> store.key(s, key), () -> model.key(s, key));
            lookAtResult();
            same("value(" + s + ", " + k + ")", () -> store.value(s, key), () -> model.value(s, key));
            lookAtResult();
        }
    }

    private void lookAtResult() {
        for (int i = -1; i <= model.result.length; i++) {
            int at = i;
            same("byteAt(" + i + ")", () -> store.byteAt(at), () -> model.byteAt(at));
        }
    }

    private int go() {
        look(true);
        while (calls < most && wrong == 0) {
            call();
            look(calls % 16 == 0 || wrong != 0);
        }
        look(true);
        return wrong;
    }

    public static void main(String[] args) {
        int from = args.length > 0 ? Integer.parseInt(args[0]) : 0;
        int many = args.length > 1 ? Integer.parseInt(args[1]) : 300;
        int bad = 0;
        for (int run = from; run < from + many && bad < 5; run++) {
            ModelTest test = new ModelTest(run);
            if (test.go() != 0) {
                bad++;
            }
        }
        System.out.println("ModelTest: " + many + " runs, " + bad + " not as due");
        if (bad != 0) {
            System.exit(1);
        }
    }
}
