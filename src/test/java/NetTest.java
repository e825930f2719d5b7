/** Time, events and the net: promises 1, 6 to 12, 19, 25 and 30. */
public final class NetTest {
    private static final Check c = new Check("NetTest");

    public static void main(String[] args) {
        newObject();
        firstAlarms();
        time();
        delays();
        parting();
        noise();
        fullNet();
        meddling();
        latency();
        c.finish();
    }

    private static void newObject() {
        int[][] nearest = {{Integer.MIN_VALUE, 1}, {0, 1}, {1, 1}, {2, 3}, {3, 7}, {6, 63}, {7, 127}, {8, 127},
            {Integer.MAX_VALUE, 127}};
        for (int[] n : nearest) {
            AgreedStore s = new AgreedStore(n[0], 0L);
            for (int i = 0; i < 7; i++) {
                c.due("members of " + n[0], n[1], s.server(i, Play.CODE));
            }
        }
        AgreedStore s = new AgreedStore(3, -1L);
        int[] first = {1, 0, 0, -1, -1, 0, 0, 0, 0, 0, 7, 0, -1, 0, 0, 0, 0, 0, 0, 0, 0};
        for (int i = 0; i < 7; i++) {
            for (int what = 0; what < first.length; what++) {
                c.due("server(" + i + ", " + what + ") at first", first[what], s.server(i, what));
            }
            for (int f = 0; f < 16; f++) {
                for (int what = 0; what < 5; what++) {
                    c.due("file(" + i + ", " + f + ", " + what + ") at first", 0, s.file(i, f, what));
                }
            }
        }
        for (int i = 0; i < 8; i++) {
            int[] client = {0, 0, -1, 0, 0, 0};
            for (int what = 0; what < 6; what++) {
                c.due("client(" + i + ", " + what + ") at first", client[what], s.client(i, what));
            }
        }
        for (int what = 0; what < 7; what++) {
            c.due("count(" + what + ") at first", 0, s.count(what));
        }
        c.due("now at first", 0, s.now());
    }

    /** Each server's alarm is drawn with the row and its number added; one that is no voter draws it again, alone. */
    private static void firstAlarms() {
        for (long row : new long[] {0L, 1L, -1L, 77L, Long.MAX_VALUE, Long.MIN_VALUE, 123456789012345L}) {
            AgreedStore s = new AgreedStore(1, row);
            long[] rows = new long[7];
            int[] rings = new int[7];
            for (int i = 0; i < 7; i++) {
                rows[i] = Play.churn(row + i);
                rings[i] = Play.ticks(rows[i]);
            }
            // Server 0, the one voter, is stopped: what rings is the others' alone.
            s.stop(0);
            for (int event = 0; event < 40; event++) {
                int next = 1;
                for (int i = 2; i < 7; i++) {
                    if (rings[i] < rings[next]) {
                        next = i;
                    }
                }
                boolean alone = true;
                for (int i = 1; i < 7; i++) {
                    alone &= i == next || rings[i] != rings[next];
                }
                int whose = s.step();
                if (alone) {
                    c.due("step " + event + " with row " + row, next, whose);
                }
                c.due("now at step " + event + " with row " + row, rings[next], s.now());
                rows[whose] = Play.churn(rows[whose]);
                rings[whose] = s.now() + Play.ticks(rows[whose]);
                c.due("role of one that is no voter", 0, s.server(whose, Play.ROLE));
            }
            c.due("events", 40, s.count(3));
            c.due("messages", 0, s.count(1));
        }
    }

    private static void time() {
        AgreedStore s = new AgreedStore(3, 5L);
        for (int i = 0; i < 7; i++) {
            s.stop(i);
        }
        c.due("step without events", -1, s.step());
        c.due("now then", 0, s.now());
        c.due("run without events", 0, s.run(1000));
        c.due("now then", 1000, s.now());
        c.due("step without events", -1, s.step());
        c.due("now then", 1000, s.now());
        long row = Play.rowFor(12);
        int rings = Play.ticks(Play.churn(row));
        AgreedStore t = Play.three(row).s;
        c.due("run up to the alarm", 0, t.run(rings - 1));
        c.due("messages", 0, t.count(0));
        c.due("run to the alarm", 1, t.run(1));
        c.due("now", rings, t.now());
        c.due("events", 1, t.count(3));
        c.due("it asks", 1, t.server(0, Play.ROLE));
        c.due("it votes", 1, t.server(0, Play.VOTES));
        c.due("messages", 2, t.count(0));
        for (int k = 0; k < 2; k++) {
            int[] message = {0, k + 1, 1, 1, rings + 3};
            for (int what = 0; what < 5; what++) {
                c.due("message(" + k + ", " + what + ")", message[what], t.message(k, what));
            }
        }
        c.due("step", 1, t.step());
        c.due("now", rings + 3, t.now());
        c.due("step", 2, t.step());
        c.due("the kind of what it sends back", 2, t.message(0, 2));
        c.due("its term", 1, t.message(0, 3));
        c.due("step", 0, t.step());
        c.due("now", rings + 6, t.now());
        c.due("it stands", 2, t.server(0, Play.ROLE));
        c.due("TERM", 1, t.server(0, Play.TERM));
        c.due("VOTED", 0, t.server(0, Play.VOTED));
        c.due("VOTES", 0, t.server(0, Play.VOTES));
        c.due("DIRTY", 1, t.server(0, Play.DIRTY));
        c.due("letters that wait", 2, t.server(0, Play.LETTERS));
        c.due("step", 0, t.step());
        c.due("a sync's step", 16, t.step());
        c.due("now", rings + 8, t.now());
        c.due("VOTES", 1, t.server(0, Play.VOTES));
        c.due("DIRTY", 0, t.server(0, Play.DIRTY));
        c.due("letters that wait", 0, t.server(0, Play.LETTERS));
        c.due("messages that ever were", 6, t.count(1));
    }

    private static void delays() {
        long row = Play.rowFor(12);
        int rings = Play.ticks(Play.churn(row));
        AgreedStore s = Play.three(row).s;
        c.due("delay", 3, s.delay(0, 2, 1));
        c.due("delay", 3, s.delay(2, 0, 30));
        s.run(rings);
        c.due("to whom first", 2, s.message(0, 1));
        c.due("when", rings + 1, s.message(0, 4));
        c.due("to whom then", 1, s.message(1, 1));
        c.due("when", rings + 3, s.message(1, 4));
        c.due("delay while it is on its way", 1, s.delay(0, 2, 7));
        c.due("when", rings + 1, s.message(0, 4));
        s.step();
        c.due("when the answer comes", rings + 31, s.message(1, 4));
    }

    private static void parting() {
        long row = Play.rowFor(12);
        int rings = Play.ticks(Play.churn(row));
        AgreedStore s = Play.three(row).s;
        s.part(1 << 2);
        s.run(rings);
        c.due("lost at sending", 1, s.count(2));
        c.due("on their way", 1, s.count(0));
        c.due("to whom", 1, s.message(0, 1));
        c.due("ever on their way", 1, s.count(1));
        c.due("part", 4, s.part(3));
        s.step();
        c.due("both are parted off: it arrives", 1, s.count(2));
        s.part(1 << 0);
        c.due("the answer arrives", 0, s.step());
        c.due("and is lost", 2, s.count(2));
        c.due("an event all the same", 3, s.count(3));
        c.due("it asks still", 1, s.server(0, Play.ROLE));
        AgreedStore t = Play.three(row).s;
        t.run(rings);
        t.crash(1, 0L);
        c.due("it arrives at one that is down", 1, t.step());
        c.due("and is lost", 1, t.count(2));
        Play p = new Play(1, 5L);
        p.s.part(1 << 8);
        p.ask(0, Play.GET, "k", "");
        c.due("a client parted off", 1, p.s.count(2));
        p.s.part(1 << 7);
        p.ask(1, Play.GET, "k", "");
        c.due("no endpoint parted off", 1, p.s.count(2));
    }

    /** What the net does with messages sent one after the other, drawn as the document says. */
    private static void noise() {
        int[][] kinds = {{500, 0, 0}, {0, 500, 0}, {0, 0, 20}, {300, 400, 50}, {0, 1000, 0}, {1000, 1000, 9},
            {0, 1000, 1000}};
        for (int[] n : kinds) {
            for (long draw : new long[] {0L, 1L, -7L, 99999999999L}) {
                AgreedStore s = new AgreedStore(7, 3L);
                s.noise(n[0], n[1], n[2], draw);
                Play p = new Play(7, 3L);
                p.s.noise(n[0], n[1], n[2], draw);
                long d = draw;
                int lost = 0;
                int ever = 0;
                long times = 0;
                for (int client = 0; client < 8; client++) {
                    p.ask(client, Play.GET, "k", "");
                    d = Play.churn(d);
                    if ((d >>> 33) % 1000 < n[0]) {
                        lost++;
                        continue;
                    }
                    d = Play.churn(d);
                    int copies = (d >>> 33) % 1000 < n[1] ? 2 : 1;
                    for (int i = 0; i < copies; i++) {
                        d = Play.churn(d);
                        times += 3 + (d >>> 33) % (n[2] + 1);
                        ever++;
                    }
                }
                c.due("lost", lost, p.s.count(2));
                c.due("ever", ever, p.s.count(1));
                for (int k = 0; k < p.s.count(0); k++) {
                    times -= p.s.message(k, 4);
                }
                c.due("the sum of the times", 0, times);
            }
        }
        // A number that is LOSS itself loses nothing, one that is TWICE itself doubles nothing.
        for (long draw = 0; draw < 20; draw++) {
            long one = Play.churn(draw);
            int loss = (int) ((one >>> 33) % 1000);
            int twice = (int) ((Play.churn(one) >>> 33) % 1000);
            for (int more = 0; more < 2; more++) {
                Play p = new Play(7, 3L);
                p.s.noise(loss + more, 0, 0, draw);
                p.ask(0, Play.GET, "k", "");
                c.due("lost", loss + more == 0 ? 0 : more, p.s.count(2));
                p = new Play(7, 3L);
                p.s.noise(0, twice + more, 1, draw);
                p.ask(0, Play.GET, "k", "");
                c.due("on their way", 1 + more, p.s.count(0));
            }
        }
        // Parted messages draw nothing.
        Play p = new Play(7, 3L);
        p.s.noise(0, 0, 1000, 4L);
        p.s.part(1 << 8);
        p.ask(0, Play.GET, "k", "");
        p.ask(1, Play.GET, "k", "");
        long d = Play.churn(Play.churn(Play.churn(4L)));
        c.due("when", 3 + (d >>> 33) % 1001, p.s.message(0, 4));
        p.s.noise(0, 0, 0, 4L);
        p.ask(2, Play.GET, "k", "");
        c.due("when, without noise", 3, p.s.message(0, 4));
    }

    private static void fullNet() {
        Play p = new Play(7, 3L);
        p.ask(0, Play.GET, "k", "");
        for (int i = 1; i < 128; i++) {
            c.due("meddle", true, p.s.meddle(0, 1, 0));
        }
        c.due("on their way", 128, p.s.count(0));
        c.due("lost", 0, p.s.count(2));
        c.due("meddle", true, p.s.meddle(127, 1, 0));
        c.due("on their way", 128, p.s.count(0));
        c.due("ever", 128, p.s.count(1));
        c.due("lost", 1, p.s.count(2));
        p.ask(1, Play.GET, "k", "");
        c.due("lost", 2, p.s.count(2));
        p.s.noise(0, 1000, 10, 9L);
        p.ask(2, Play.GET, "k", "");
        c.due("both lost", 4, p.s.count(2));
        c.due("a later arrival", true, p.s.meddle(3, 2, 5));
        c.due("on their way", 128, p.s.count(0));
        c.due("ever", 128, p.s.count(1));
        c.due("lost", 4, p.s.count(2));
        c.due("taken away", true, p.s.meddle(127, 0, 0));
        c.due("on their way", 127, p.s.count(0));
        c.due("lost", 5, p.s.count(2));
        p.ask(3, Play.GET, "k", "");
        c.due("one of two lost", 6, p.s.count(2));
        // One that was sent when the net was full drew all the same: four numbers, and four more now.
        long d = 9L;
        for (int i = 0; i < 7; i++) {
            d = Play.churn(d);
        }
        int late = (int) (3 + (d >>> 33) % 11);
        int found = 0;
        for (int k = 0; k < 128; k++) {
            if (p.s.message(k, 0) == 8 + 3) {
                c.due("when", late, p.s.message(k, 4));
                found++;
            }
        }
        c.due("found", 1, found);
        c.due("taken away by 128", false, p.s.meddle(128, 0, 0));
    }

    private static void meddling() {
        Play p = new Play(7, 3L);
        p.ask(0, Play.GET, "k", "");
        p.ask(1, Play.GET, "k", "");
        p.ask(2, Play.GET, "k", "");
        c.due("later by 0", true, p.s.meddle(0, 2, 0));
        c.due("is a new event", 9, p.s.message(0, 0));
        c.due("the last of its time", 8, p.s.message(2, 0));
        c.due("later by 7", true, p.s.meddle(1, 2, 7));
        c.due("when", 10, p.s.message(2, 4));
        c.due("from", 10, p.s.message(2, 0));
        p.s.run(2);
        p.s.delay(10, 0, 20);
        p.s.part(1 << 10);
        p.s.noise(1000, 0, 0, 0L);
        c.due("once more", true, p.s.meddle(2, 1, 0));
        c.due("when", 22, p.s.message(3, 4));
        c.due("the first one", 10, p.s.message(2, 4));
        c.due("its request number", 1, p.s.message(3, 3));
        c.due("its kind", 10, p.s.message(3, 2));
        c.due("lost", 0, p.s.count(2));
        c.due("ever", 4, p.s.count(1));
        c.due("taken away", true, p.s.meddle(0, 0, 1000));
        c.due("the first then", 8, p.s.message(0, 0));
        c.due("lost", 1, p.s.count(2));
        c.due("no fourth", false, p.s.meddle(3, 0, 0));
        c.due("events", 0, p.s.count(3));
    }

    private static void latency() {
        Play p = new Play(1, 5L);
        p.s.latency(0, 40);
        while (p.s.server(0, Play.DIRTY) == 0) {
            p.s.step();
        }
        int campaigned = p.s.now();
        c.due("latency of one that is dirty", 40, p.s.latency(0, 0));
        while (p.s.server(0, Play.ROLE) != 3) {
            p.s.step();
        }
        c.due("its sync", campaigned + 40, p.s.now());
        c.due("it leads, and is dirty", 1, p.s.server(0, Play.DIRTY));
        c.due("a sync at once", 16, p.s.step());
        c.due("now", campaigned + 40, p.s.now());
        c.due("COMMIT", 1, p.s.server(0, Play.COMMIT));
    }
}
