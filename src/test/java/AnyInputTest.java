import java.util.Random;

/** Any arguments in any state: a call throws only what it names, by a throw of its own class and no other. */
public final class AnyInputTest {
    private static final Class<?> BOUNDS = IndexOutOfBoundsException.class;
    private static final Class<?> ARGUMENT = IllegalArgumentException.class;
    private static final Class<?> STATE = IllegalStateException.class;
    private static final int[] EDGES = {Integer.MIN_VALUE, Integer.MIN_VALUE + 1, -65536, -129, -128, -2, -1, 0, 1, 2, 6,
        7, 8, 15, 16, 20, 21, 31, 32, 33, 63, 64, 99, 100, 101, 127, 128, 129, 255, 256, 299, 300, 301, 999, 1000, 1001,
        1023, 1024, 32767, 65535, 65536, 1 << 30, Integer.MAX_VALUE - 1, Integer.MAX_VALUE};

    private static Random random;
    private static int wrong;

    private static int any() {
        int sort = random.nextInt(8);
        return sort == 0 ? EDGES[random.nextInt(EDGES.length)] : sort == 1 ? random.nextInt() : random.nextInt(9) - 1;
    }

    private static void only(String what, Check.Call call, Class<?>... named) {
        try {
            call.get();
        } catch (RuntimeException e) {
            boolean known = false;
            for (Class<?> c : named) {
                known |= e.getClass() == c;
            }
            boolean thrown = e.getStackTrace().length > 0
                    && e.getStackTrace()[0].getClassName().startsWith("AgreedStore") && e.getMessage() == null;
            if (!known || !thrown) {
                wrong++;
                System.out.println("AnyInputTest: " + what + " threw " + e);
            }
        }
    }

    private static long number(boolean b) {
        return b ? 1 : 0;
    }

    private static void call(AgreedStore s) {
        int a = any();
        int b = any();
        int c = any();
        int d = any();
        long l = random.nextInt(3) == 0 ? any() : random.nextLong();
        switch (random.nextInt(34)) {
            case 0: only("feed", () -> s.feed(a, b, c, d, a), STATE); break;
            case 1: only("end", () -> s.end(a), ARGUMENT, STATE); break;
            case 2: only("giveUp", () -> number(s.giveUp(a)), BOUNDS); break;
            case 3: only("run", () -> s.run(a), ARGUMENT); break;
            case 4: only("step", () -> s.step()); break;
            case 5: only("delay", () -> s.delay(a, b, c), BOUNDS, ARGUMENT); break;
            case 6: only("part", () -> s.part(random.nextInt(3) == 0 ? 0 : a), ARGUMENT); break;
            case 7: only("noise", () -> {
                s.noise(a, b, c, l);
                return 0;
            }, ARGUMENT); break;
            case 8: only("meddle", () -> number(s.meddle(a, b, c)), ARGUMENT); break;
            case 9: only("latency", () -> s.latency(a, b), BOUNDS, ARGUMENT); break;
            case 10: only("crash", () -> number(s.crash(a, l)), BOUNDS); break;
            case 11: only("stop", () -> number(s.stop(a)), BOUNDS); break;
            case 12:
            case 13: only("start", () -> number(s.start(a)), BOUNDS); break;
            case 14: only("members", () -> number(s.members(a, b)), BOUNDS); break;
            case 15: only("learners", () -> number(s.learners(a, b)), BOUNDS); break;
            case 16: only("hand", () -> number(s.hand(a, b)), BOUNDS); break;
            case 17: only("server", () -> s.server(a, b), BOUNDS); break;
            case 18: only("entry", () -> s.entry(a, b, c), BOUNDS); break;
            case 19: only("file", () -> s.file(a, b, c), BOUNDS); break;
            case 20: only("key", () -> s.key(a, b), BOUNDS); break;
            case 21: only("value", () -> s.value(a, b), BOUNDS); break;
            case 22: only("message", () -> s.message(a, b), BOUNDS); break;
            case 23: only("client", () -> s.client(a, b), BOUNDS); break;
            case 24: only("answer", () -> s.answer(a), BOUNDS); break;
            case 25: only("history", () -> s.history(a, b), BOUNDS); break;
            case 26: only("byteAt", () -> s.byteAt(a), BOUNDS); break;
            case 27: only("count", () -> s.count(a)); break;
            case 28: only("ask", () -> s.ask(a, b, c, d), BOUNDS, ARGUMENT, STATE); break;
            default:
                only("feed", () -> s.feed(a, b, c, d, a), STATE);
                only("end", () -> s.end(random.nextInt(21)), ARGUMENT, STATE);
                only("ask", () -> s.ask(random.nextInt(8), random.nextInt(6), 1 + random.nextInt(4),
                        random.nextInt(2)), BOUNDS, ARGUMENT, STATE);
                only("run", () -> s.run(1 + random.nextInt(100)), ARGUMENT);
                break;
        }
    }

    public static void main(String[] args) {
        int runs = args.length > 0 ? Integer.parseInt(args[0]) : 400;
        for (int run = 0; run < runs && wrong < 10; run++) {
            random = new Random(run);
            AgreedStore s = new AgreedStore(any(), random.nextLong());
            for (int i = 0; i < 512; i++) {
                call(s);
            }
        }
        System.out.println("AnyInputTest: " + runs + " runs, " + wrong + " not as due");
        if (wrong != 0) {
            System.exit(1);
        }
    }
}
