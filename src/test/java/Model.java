import java.util.ArrayList;
import java.util.List;
import java.util.Map;
import java.util.Set;
import java.util.TreeMap;
import java.util.TreeSet;

/** The document's words at their plainest: nothing is kept but the log, and every answer is worked out anew. */
final class Model implements Face {
    private static final class Tx {
        int server;
        int snapshot;
        int level;
        final Set<Integer> readKeys = new TreeSet<>();
        final List<int[]> readParts = new ArrayList<>();
        final Map<Integer, Long> writes = new TreeMap<>();
    }

    private final List<Tx> log = new ArrayList<>();
    private final Map<Integer, Tx> open = new TreeMap<>();
    private final int[] gone = new int[4];
    private int restarts = 0;

    private static boolean in(int value, int last) {
        return 0 <= value && value <= last;
    }

    private boolean[] goodOnes() {
        boolean[] good = new boolean[log.size()];
        for (int i = 0; i < log.size(); i++) {
            good[i] = true;
            for (int j = log.get(i).snapshot; j < i; j++) {
                for (int key : log.get(j).writes.keySet()) {
                    if (good[j] && clash(log.get(i), key)) {
                        good[i] = false;
                    }
                }
            }
        }
        return good;
    }

    private static boolean clash(Tx tx, int key) {
        if (tx.level == 1) {
            return tx.writes.containsKey(key);
        }
        return tx.readKeys.contains(key)
                || tx.readParts.stream().anyMatch(p -> p[0] <= key && key <= p[1]);
    }

    private TreeMap<Integer, Long> stateAfter(int many) {
        boolean[] good = goodOnes();
        TreeMap<Integer, Long> state = new TreeMap<>();
        for (int i = 0; i < many; i++) {
            if (good[i]) {
                apply(state, log.get(i));
            }
        }
        return state;
    }

    private static void apply(TreeMap<Integer, Long> state, Tx tx) {
        for (Map.Entry<Integer, Long> write : tx.writes.entrySet()) {
            if (write.getValue() == null) {
                state.remove(write.getKey());
            } else {
                state.put(write.getKey(), write.getValue());
            }
        }
    }

    private TreeMap<Integer, Long> seenBy(Tx tx) {
        TreeMap<Integer, Long> state = stateAfter(tx.snapshot);
        apply(state, tx);
        return state;
    }

    private static String numberIn(TreeMap<Integer, Long> state, int key) {
        return state.containsKey(key) ? String.valueOf(state.get(key)) : Due.UOE;
    }

    private static String told(TreeMap<Integer, Long> state, int low, int high, int what) {
        TreeMap<Integer, Long> there = new TreeMap<>(state.subMap(low, true, high, true));
        switch (what) {
            case 0:
                return String.valueOf(there.size());
            case 1:
                return String.valueOf(there.values().stream().mapToLong(Long::longValue).sum());
            case 2:
                return String.valueOf(there.isEmpty() ? -1 : there.firstKey());
            default:
                return String.valueOf(there.isEmpty() ? -1 : there.lastKey());
        }
    }

    @Override
    public String begin(int t, int server, int level) {
        if (!in(t, 15) || !in(server, 3) || !in(level, 1)) {
            return Due.IAE;
        }
        if (open.containsKey(t)) {
            return Due.ISE;
        }
        Tx tx = new Tx();
        tx.server = server;
        tx.snapshot = gone[server];
        tx.level = level;
        open.put(t, tx);
        return Due.DONE;
    }

    @Override
    public String get(int t, int key) {
        if (!in(t, 15) || !in(key, 255)) {
            return Due.IAE;
        }
        Tx tx = open.get(t);
        if (tx == null) {
            return Due.ISE;
        }
        if (!tx.writes.containsKey(key)) {
            tx.readKeys.add(key);
        }
        return numberIn(seenBy(tx), key);
    }

    private String write(int t, int key, Long v) {
        if (!in(t, 15) || !in(key, 255)) {
            return Due.IAE;
        }
        Tx tx = open.get(t);
        if (tx == null) {
            return Due.ISE;
        }
        if (!tx.writes.containsKey(key) && tx.writes.size() == 8) {
            return Due.IOOBE;
        }
        tx.writes.put(key, v);
        return String.valueOf(tx.writes.size());
    }

    @Override
    public String put(int t, int key, long v) {
        return write(t, key, v);
    }

    @Override
    public String delete(int t, int key) {
        return write(t, key, null);
    }

    @Override
    public String part(int t, int low, int high, int what) {
        if (!in(t, 15) || !in(low, 255) || !in(high, 255) || low > high || !in(what, 3)) {
            return Due.IAE;
        }
        Tx tx = open.get(t);
        if (tx == null) {
            return Due.ISE;
        }
        if (tx.readParts.size() == 8) {
            return Due.IOOBE;
        }
        tx.readParts.add(new int[] {low, high});
        return told(seenBy(tx), low, high, what);
    }

    @Override
    public String commit(int t) {
        if (!in(t, 15)) {
            return Due.IAE;
        }
        Tx tx = open.get(t);
        if (tx == null) {
            return Due.ISE;
        }
        if (tx.writes.isEmpty()) {
            open.remove(t);
            return "-1";
        }
        if (log.size() == 400) {
            return Due.IOOBE;
        }
        open.remove(t);
        log.add(tx);
        return String.valueOf(log.size() - 1);
    }

    @Override
    public String abort(int t) {
        if (!in(t, 15)) {
            return Due.IAE;
        }
        return open.remove(t) == null ? Due.ISE : Due.DONE;
    }

    @Override
    public String advance(int server, int n) {
        if (!in(server, 3) || !in(n, 400)) {
            return Due.IAE;
        }
        int before = gone[server];
        gone[server] = Math.min(log.size(), before + n);
        return String.valueOf(gone[server] - before);
    }

    @Override
    public String restart(int server) {
        if (!in(server, 3)) {
            return Due.IAE;
        }
        if (restarts == 4) {
            return Due.ISE;
        }
        restarts++;
        gone[server] = 0;
        open.values().removeIf(tx -> tx.server == server);
        return Due.DONE;
    }

    @Override
    public String state(int server, int key) {
        if (!in(server, 3) || !in(key, 255)) {
            return Due.IAE;
        }
        return numberIn(stateAfter(gone[server]), key);
    }

    @Override
    public String look(int server, int low, int high, int what) {
        if (!in(server, 3) || !in(low, 255) || !in(high, 255) || low > high || !in(what, 3)) {
            return Due.IAE;
        }
        return told(stateAfter(gone[server]), low, high, what);
    }

    @Override
    public String verdict(int server, int k) {
        if (!in(server, 3)) {
            return Due.IAE;
        }
        if (!in(k, log.size() - 1)) {
            return Due.IOOBE;
        }
        if (k >= gone[server]) {
            return "0";
        }
        return goodOnes()[k] ? "1" : "2";
    }

    @Override
    public String intention(int k, int what) {
        if (!in(what, 5)) {
            return Due.IAE;
        }
        if (!in(k, log.size() - 1)) {
            return Due.IOOBE;
        }
        Tx tx = log.get(k);
        int[] all = {tx.snapshot, tx.level, tx.readKeys.size(), tx.readParts.size(), tx.writes.size(), tx.server};
        return String.valueOf(all[what]);
    }

    @Override
    public String count(int what, int k, int j) {
        if (!in(what, 4) || (what >= 2 && !in(k, 3)) || (what == 4 && !in(j, 255))) {
            return Due.IAE;
        }
        if (what < 2) {
            return String.valueOf(what == 0 ? log.size() : open.size());
        }
        if (what == 2) {
            return String.valueOf(gone[k]);
        }
        boolean[] good = goodOnes();
        int many = 0;
        int last = -1;
        for (int i = 0; i < gone[k]; i++) {
            many += good[i] ? 1 : 0;
            last = good[i] && log.get(i).writes.containsKey(j) ? i : last;
        }
        return String.valueOf(what == 3 ? many : last);
    }
}
