import java.util.Random;

/** Random runs of 512 calls, each answered by the class and by the model. */
public final class RandomRunsTest {
    private static final int CALLS = 512;

    private final Random random;
    private final Face real = new Real();
    private final Face model = new Model();
    private final int keys;
    private final int transactions;
    private final boolean wild;
    // Long transactions come to their eighth key and eighth part.
    private final boolean lengthy;

    private RandomRunsTest(int seed) {
        random = new Random(seed);
        // Few keys and few transactions make clashes; many make room for the edges.
        keys = new int[] {4, 12, 40, 256}[seed % 4];
        transactions = new int[] {3, 16, 6}[seed % 3];
        wild = seed % 5 == 0;
        lengthy = seed % 7 == 0;
    }

    public static void main(String[] args) {
        for (int seed = 0; seed < 400; seed++) {
            RandomRunsTest run = new RandomRunsTest(seed);
            for (int call = 0; call < CALLS; call++) {
                run.oneCall(seed, call);
            }
        }
        Due.end();
    }

    private int below(int bound) {
        if (wild && random.nextInt(40) == 0) {
            int[] odd = {-1, bound, bound + 1, Integer.MIN_VALUE, Integer.MAX_VALUE};
            return odd[random.nextInt(odd.length)];
        }
        return random.nextInt(bound);
    }

    private int key() {
        int spread = 256 / keys;
        int k = below(keys);
        // The last key is 255, so that the edge is used in runs of few keys too.
        return 0 <= k && k < keys ? (k == keys - 1 ? 255 : k * spread) : k == keys ? 256 : k;
    }

    private long number() {
        switch (random.nextInt(4)) {
            case 0:
                return random.nextInt(10);
            case 1:
                return random.nextBoolean() ? Long.MAX_VALUE : Long.MIN_VALUE;
            default:
                return random.nextLong();
        }
    }

    private void oneCall(int seed, int call) {
        int kind = random.nextInt(lengthy && random.nextInt(8) != 0 ? 50 : 100);
        int t = below(transactions);
        int server = below(4);
        int key = key();
        int a = key();
        int b = key();
        int low = wild && random.nextInt(10) == 0 ? a : Math.min(a, b);
        int high = low == a ? b : Math.max(a, b);
        int what = below(4);
        String where = "seed " + seed + " call " + call + " ";
        if (kind < 50) {
            changing(where, kind, t, server, key, low, high, what);
        } else {
            rest(where, kind, t, server, key, low, high, what);
        }
    }

    private void changing(String where, int kind, int t, int server, int key, int low, int high, int what) {
        if (kind < 16) {
            int level = below(2);
            compare(where, "begin", f -> f.begin(t, server, level));
        } else if (kind < 34) {
            long v = number();
            compare(where, "put", f -> f.put(t, key, v));
        } else if (kind < 39) {
            compare(where, "delete", f -> f.delete(t, key));
        } else if (kind < 44) {
            compare(where, "get", f -> f.get(t, key));
        } else {
            compare(where, "part", f -> f.part(t, low, high, what));
        }
    }

    private void rest(String where, int kind, int t, int server, int key, int low, int high, int what) {
        int k = below(10) - 1;
        if (kind < 62) {
            compare(where, "commit", f -> f.commit(t));
        } else if (kind < 64) {
            compare(where, "abort", f -> f.abort(t));
        } else if (kind < 74) {
            int n = random.nextInt(8) == 0 ? below(401) : random.nextInt(4);
            compare(where, "advance", f -> f.advance(server, n));
        } else if (kind < 75) {
            compare(where, "restart", f -> f.restart(server));
        } else if (kind < 80) {
            compare(where, "state", f -> f.state(server, key));
        } else if (kind < 85) {
            compare(where, "look", f -> f.look(server, low, high, what));
        } else if (kind < 90) {
            int asked = random.nextInt(90);
            compare(where, "verdict", f -> f.verdict(server, asked));
        } else if (kind < 94) {
            int asked = random.nextInt(60);
            int of = below(6);
            compare(where, "intention", f -> f.intention(asked, of));
        } else {
            int of = below(5);
            compare(where, "count", f -> f.count(of, of < 2 ? k : server, of < 4 ? -k : key));
        }
    }

    private interface Call {
        String on(Face face);
    }

    private void compare(String where, String name, Call call) {
        Due.due(where + name, call.on(model), call.on(real));
    }
}
