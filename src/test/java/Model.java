import java.util.ArrayDeque;
import java.util.ArrayList;
import java.util.List;

/** The document told once more in the plainest way, to compare long runs with: it keeps every transaction for good. */
final class Model {
    static final class Burst {
        boolean write;
        int manager;
        int id;
        int addr;
        int len;
        int state = IdInterconnect.ST_QUEUED;
        List<Integer> values = new ArrayList<>();
        int latency;
        int readyCycle;
        int doneOrder = -1;
        int doneCycle = -1;

        int target() {
            return addr / 8;
        }

        boolean done() {
            return state == IdInterconnect.ST_OKAY || state == IdInterconnect.ST_DECERR;
        }

        boolean active() {
            return state == IdInterconnect.ST_ACTIVE;
        }
    }

    final int limit;
    final int cap;
    final List<Burst> bursts = new ArrayList<>();
    final List<ArrayDeque<Integer>> wQueues = List.of(new ArrayDeque<>(), new ArrayDeque<>());
    final int[] words = new int[24];
    final int[][] script = {{1, 1, 1, 1}, {1, 1, 1, 1}, {1, 1, 1, 1}};
    final int[] accepted = new int[4];
    final int[] bPtr = new int[2];
    final int[] rPtr = new int[2];
    final boolean[] bReady = {true, true};
    final boolean[] rReady = {true, true};
    final int[] awPrio = new int[4];
    final int[] arPrio = new int[4];
    int c = 0;
    int completions = 0;

    Model(int limit, int cap) {
        this.limit = Math.max(1, Math.min(8, limit));
        this.cap = Math.max(1, Math.min(4, cap));
    }

    int issue(boolean write, int m, int id, int addr, int len) {
        if (m < 0 || m > 1 || id < 0 || id > 3 || addr < 0 || addr > 31 || len < 1 || len > 4 || addr % 8 + len > 8) {
            return IdInterconnect.ERR_ARG;
        }
        if (queue(write, m).size() == 4) {
            return IdInterconnect.ERR_FULL;
        }
        int tickets = bursts.size();
        if (tickets >= 32 && !bursts.get(tickets - 32).done()) {
            return IdInterconnect.ERR_SLOT;
        }
        Burst b = new Burst();
        b.write = write;
        b.manager = m;
        b.id = id;
        b.addr = addr;
        b.len = len;
        bursts.add(b);
        return tickets;
    }

    boolean writeData(int m, int value) {
        if (m < 0 || m > 1 || wQueues.get(m).size() == 8) {
            return false;
        }
        wQueues.get(m).addLast(value);
        return true;
    }

    boolean setLatency(int s, int idx, int lat) {
        if (s < 0 || s > 2 || idx < 0 || idx > 3 || lat < 1 || lat > 15) {
            return false;
        }
        script[s][idx] = lat;
        return true;
    }

    boolean setReady(int m, boolean b, boolean r) {
        if (m < 0 || m > 1) {
            return false;
        }
        bReady[m] = b;
        rReady[m] = r;
        return true;
    }

    boolean step(int n) {
        if (n < 1 || n > 64) {
            return false;
        }
        for (int i = 0; i < n; i++) {
            oneCycle();
        }
        return true;
    }

    boolean valid(int t) {
        return t >= 0 && t < bursts.size() && t >= bursts.size() - 32;
    }

    int status(int t) {
        return valid(t) ? bursts.get(t).state : IdInterconnect.ST_NONE;
    }

    int beats(int t) {
        return valid(t) ? bursts.get(t).values.size() : -1;
    }

    int readData(int t, int i) {
        if (!valid(t) || bursts.get(t).write || i < 0 || i >= beats(t)) {
            return 0;
        }
        return bursts.get(t).values.get(i);
    }

    int doneOrder(int t) {
        return valid(t) ? bursts.get(t).doneOrder : -1;
    }

    int doneCycle(int t) {
        return valid(t) ? bursts.get(t).doneCycle : -1;
    }

    int outstanding(int m) {
        if (m < 0 || m > 1) {
            return -1;
        }
        return (int) recent().stream().filter(b -> b.active() && b.manager == m).count();
    }

    int subLoad(int s) {
        if (s < 0 || s > 3) {
            return -1;
        }
        return (int) recent().stream().filter(b -> b.active() && b.target() == s).count();
    }

    int pendingData(int m) {
        return m < 0 || m > 1 ? -1 : wQueues.get(m).size();
    }

    int memory(int a) {
        return a < 0 || a > 23 ? 0 : words[a];
    }

    /** All that is not DONE is in here, because a ticket leaves only when its burst is DONE. */
    private List<Burst> recent() {
        return bursts.subList(Math.max(0, bursts.size() - 32), bursts.size());
    }

    private List<Burst> queue(boolean write, int m) {
        List<Burst> found = new ArrayList<>();
        for (Burst b : recent()) {
            if (b.write == write && b.manager == m && b.state == IdInterconnect.ST_QUEUED) {
                found.add(b);
            }
        }
        return found;
    }

    private void oneCycle() {
        c++;
        for (int m = 0; m < 2; m++) {
            if (bReady[m]) {
                respond(m);
            }
        }
        for (int m = 0; m < 2; m++) {
            if (rReady[m]) {
                beat(m);
            }
        }
        for (int m = 0; m < 2; m++) {
            moveData(m);
        }
        for (int s = 0; s < 4; s++) {
            arbitrate(true, s, awPrio);
            arbitrate(false, s, arPrio);
        }
    }

    private void respond(int m) {
        Burst b = choose(true, m, bPtr[m]);
        if (b == null) {
            return;
        }
        if (b.target() != 3) {
            for (int i = 0; i < b.len; i++) {
                words[b.addr + i] = b.values.get(i);
            }
        }
        finish(b);
        bPtr[m] = (b.id + 1) % 4;
    }

    private void beat(int m) {
        Burst b = choose(false, m, rPtr[m]);
        if (b == null) {
            return;
        }
        b.values.add(b.target() == 3 ? 0 : words[b.addr + b.values.size()]);
        if (b.values.size() == b.len) {
            finish(b);
        }
        rPtr[m] = (b.id + 1) % 4;
    }

    private Burst choose(boolean write, int m, int pointer) {
        for (int i = 0; i < 4; i++) {
            for (Burst b : recent()) {
                if (b.id == (pointer + i) % 4 && b.manager == m && b.write == write && eligible(b)) {
                    return b;
                }
            }
        }
        return null;
    }

    private boolean eligible(Burst b) {
        if (!b.active() || b.write && b.values.size() < b.len || b.readyCycle > c) {
            return false;
        }
        for (Burst other : recent()) {
            if (other == b) {
                return true;
            }
            if (other.write == b.write && other.manager == b.manager && other.id == b.id && !other.done()) {
                return false;
            }
        }
        return true;
    }

    private void finish(Burst b) {
        b.state = b.target() == 3 ? IdInterconnect.ST_DECERR : IdInterconnect.ST_OKAY;
        b.doneOrder = completions++;
        b.doneCycle = c;
    }

    private void moveData(int m) {
        for (Burst w : recent()) {
            if (w.write && w.manager == m && w.values.size() < w.len) {
                if (w.active() && !wQueues.get(m).isEmpty()) {
                    w.values.add(wQueues.get(m).removeFirst());
                    if (w.values.size() == w.len) {
                        w.readyCycle = c + w.latency;
                    }
                }
                return;
            }
        }
    }

    private void arbitrate(boolean write, int s, int[] prio) {
        boolean zero = candidate(write, 0, s);
        boolean one = candidate(write, 1, s);
        if (!zero && !one) {
            return;
        }
        int winner = zero && one ? prio[s] : zero ? 0 : 1;
        Burst b = queue(write, winner).get(0);
        b.state = IdInterconnect.ST_ACTIVE;
        b.latency = s == 3 ? 1 : script[s][accepted[s] % 4];
        accepted[s]++;
        b.readyCycle = c + b.latency;
        prio[s] = 1 - winner;
    }

    private boolean candidate(boolean write, int m, int s) {
        List<Burst> queue = queue(write, m);
        if (queue.isEmpty() || queue.get(0).target() != s || outstanding(m) >= limit || subLoad(s) >= cap) {
            return false;
        }
        for (Burst b : recent()) {
            if (b.active() && b.manager == m && b.write == write && b.id == queue.get(0).id && b.target() != s) {
                return false;
            }
        }
        return true;
    }
}
