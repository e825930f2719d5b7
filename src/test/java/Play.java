/** An AgreedStore with what tests do again and again; texts stand for bytes 0 .. 255. */
final class Play {
    static final int PUT = 0;
    static final int SWAP = 1;
    static final int REMOVE = 2;
    static final int GET = 3;
    static final int COUNT = 4;
    static final int NEXT = 5;
    /** What is asked of server(). */
    static final int ROLE = 1;
    static final int TERM = 2;
    static final int VOTED = 3;
    static final int LEADER = 4;
    static final int COMMIT = 5;
    static final int APPLIED = 6;
    static final int SYNCED = 7;
    static final int BASE = 8;
    static final int LAST = 9;
    static final int CODE = 10;
    static final int VOTES = 11;
    static final int HANDING = 12;
    static final int DIRTY = 13;
    static final int ROUND = 14;
    static final int LETTERS = 15;
    static final int REQUESTS = 16;
    static final int SESSIONS = 17;
    static final int KEYS = 18;
    static final int UNITS = 19;
    static final int SNAPSHOT = 20;

    final AgreedStore s;

    Play(int servers, long row) {
        s = new AgreedStore(servers, row);
    }

    /** Three servers, and no others that are up. */
    static Play three(long row) {
        Play p = new Play(3, row);
        for (int i = 3; i < 7; i++) {
            p.s.stop(i);
        }
        return p;
    }

    static long churn(long row) {
        return row * 6364136223846793005L + 1442695040888963407L;
    }

    /** Ticks until an alarm that is drawn with this row (already churned). */
    static int ticks(long row) {
        return 50 + (int) ((row >>> 33) % 50);
    }

    static String text(char c, int n) {
        return String.valueOf(c).repeat(n);
    }

    /** A row with which server 0 rings first of 0, 1, 2, the others at least so many ticks later. */
    static long rowFor(int early) {
        for (long i = 0; i < 1000000; i++) {
            long row = i * 1000003L * 999983L;
            int first = ticks(churn(row));
            boolean good = true;
            for (int s = 1; s < 3; s++) {
                good &= ticks(churn(row + s)) > first + early;
            }
            if (good) {
                return row;
            }
        }
        throw new IllegalStateException("no such row");
    }

    void tape(String bytes) {
        for (int at = 0; at < bytes.length(); at += 20) {
            int[] five = new int[5];
            int n = Math.min(20, bytes.length() - at);
            for (int i = 0; i < n; i++) {
                five[i / 4] |= (bytes.charAt(at + i) & 255) << 24 - 8 * (i % 4);
            }
            s.feed(five[0], five[1], five[2], five[3], five[4]);
            if (n < 20) {
                s.end(n);
            }
        }
    }

    int ask(int client, int kind, String key, String rest) {
        tape(key + rest);
        return s.ask(client, kind, key.length(), 0);
    }

    int swap(int client, String key, String expected, String value) {
        tape(key + expected + value);
        return s.ask(client, SWAP, key.length(), expected.length());
    }

    /** Asks, and lets time pass until it is told (or for long enough): what was told. */
    int done(int client, int kind, String key, String rest) {
        return told(ask(client, kind, key, rest));
    }

    int swapDone(int client, String key, String expected, String value) {
        return told(swap(client, key, expected, value));
    }

    int told(int asking) {
        for (int i = 0; i < 100 && s.history(asking, 4) == 0; i++) {
            s.run(10);
        }
        return s.history(asking, 4);
    }

    String answer(int client) {
        return result(s.answer(client));
    }

    String result(int n) {
        StringBuilder b = new StringBuilder();
        for (int i = 0; i < n; i++) {
            b.append((char) s.byteAt(i));
        }
        return b.toString();
    }

    String key(int server, int k) {
        return result(s.key(server, k));
    }

    String value(int server, int k) {
        return result(s.value(server, k));
    }

    int leader() {
        for (int i = 0; i < 7; i++) {
            if (s.server(i, ROLE) == 3) {
                return i;
            }
        }
        return -1;
    }

    /** Lets time pass until there is a leader whose first entry is agreed on: which one. */
    int awaitLeader() {
        for (int i = 0; i < 400; i++) {
            int l = leader();
            if (l >= 0 && s.server(l, COMMIT) == s.server(l, LAST)) {
                return l;
            }
            s.run(5);
        }
        return leader();
    }

    /** Steps until a message of that kind is on its way: its place, or -1 after so many steps. */
    int awaitMessage(int kind, int steps) {
        for (int i = 0; i < steps; i++) {
            int k = findMessage(kind);
            if (k >= 0) {
                return k;
            }
            s.step();
        }
        return -1;
    }

    int findMessage(int kind) {
        for (int k = 0; k < s.count(0); k++) {
            if (s.message(k, 2) == kind) {
                return k;
            }
        }
        return -1;
    }
}
