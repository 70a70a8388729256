import java.util.ArrayList;
import java.util.List;

/** A bus that is asked after every call for the rules at the end of promise 7, which hold after any call. */
final class Watched {
    private record Burst(boolean write, int manager, int id, int len) {
        boolean isLike(Burst other) {
            return write == other.write && manager == other.manager && id == other.id;
        }
    }

    final IdInterconnect bus;
    final int limit;
    final int cap;
    private final List<Burst> bursts = new ArrayList<>();

    Watched() {
        this(8, 4);
    }

    Watched(int limit, int cap) {
        bus = new IdInterconnect(limit, cap);
        this.limit = Math.max(1, Math.min(8, limit));
        this.cap = Math.max(1, Math.min(4, cap));
        obey("new");
    }

    int tickets() {
        return bursts.size();
    }

    // The calls that change something

    int issue(boolean write, int m, int id, int addr, int len) {
        int answer = write ? bus.issueWrite(m, id, addr, len) : bus.issueRead(m, id, addr, len);
        if (answer >= 0) {
            bursts.add(new Burst(write, m, id, len));
        }
        obey(write ? "issueWrite" : "issueRead");
        return answer;
    }

    int issueRead(int m, int id, int addr, int len) {
        return issue(false, m, id, addr, len);
    }

    int issueWrite(int m, int id, int addr, int len) {
        return issue(true, m, id, addr, len);
    }

    boolean writeData(int m, int value) {
        boolean answer = bus.writeData(m, value);
        obey("writeData");
        return answer;
    }

    boolean setLatency(int s, int idx, int lat) {
        boolean answer = bus.setLatency(s, idx, lat);
        obey("setLatency");
        return answer;
    }

    boolean setReady(int m, boolean b, boolean r) {
        boolean answer = bus.setReady(m, b, r);
        obey("setReady");
        return answer;
    }

    boolean step(int n) {
        boolean answer = bus.step(n);
        obey("step(" + n + ")");
        return answer;
    }

    // Runs of calls that many tests need

    /** Neither manager takes anything, so that all that is accepted stays ACTIVE. */
    void hold() {
        setReady(0, false, false);
        setReady(1, false, false);
    }

    void release() {
        setReady(0, true, true);
        setReady(1, true, true);
    }

    /** One word, done before it answers where nothing stands in the way and the latency is 1. */
    int quick(boolean write, int m, int id, int addr) {
        int t = issue(write, m, id, addr, 1);
        if (write) {
            writeData(m, 7);
        }
        step(3);
        return t;
    }

    /** Quick reads until that many tickets are given; it ends on a bus that refuses them, too. */
    void giveTickets(int count, int m, int id, int addr) {
        for (int i = 0; i < 100 && tickets() < count; i++) {
            quick(false, m, id, addr);
        }
        Due.is("tickets given", tickets(), count);
    }

    /** The cycles from the acceptance of a read to its beat. */
    int delayOfRead(int m, int addr) {
        int t = issueRead(m, 0, addr, 1);
        step(1);
        int accepted = bus.cycle();
        step(20);
        return bus.doneCycle(t) - accepted;
    }

    /** The cycles from the last value of a write to its response. */
    int delayOfWrite(int m, int addr) {
        int t = issueWrite(m, 0, addr, 1);
        step(1);
        writeData(m, 7);
        step(1);
        int filled = bus.cycle();
        step(20);
        return bus.doneCycle(t) - filled;
    }

    // What is due

    void isQueued(int t) {
        Due.is("status(" + t + ")", bus.status(t), IdInterconnect.ST_QUEUED);
    }

    void isActive(int t) {
        Due.is("status(" + t + ")", bus.status(t), IdInterconnect.ST_ACTIVE);
    }

    void isOkay(int t) {
        Due.is("status(" + t + ")", bus.status(t), IdInterconnect.ST_OKAY);
    }

    void isDecerr(int t) {
        Due.is("status(" + t + ")", bus.status(t), IdInterconnect.ST_DECERR);
    }

    /** OKAY at the memories 0..2, DECERR at 3. */
    void isDoneAt(int t, int s) {
        if (s == 3) {
            isDecerr(t);
        } else {
            isOkay(t);
        }
    }

    void isNone(int t) {
        Due.is("status(" + t + ")", bus.status(t), IdInterconnect.ST_NONE);
    }

    boolean isDone(int t) {
        return bus.status(t) == IdInterconnect.ST_OKAY || bus.status(t) == IdInterconnect.ST_DECERR;
    }

    private void obey(String call) {
        obeyCounts(call);
        int first = Math.max(0, bursts.size() - 32);
        for (int t = first; t < bursts.size(); t++) {
            if (isDone(t)) {
                obeyDone(call, first, t);
            }
        }
    }

    private void obeyCounts(String call) {
        int loads = 0;
        for (int s = 0; s < 4; s++) {
            loads += bus.subLoad(s);
            if (bus.subLoad(s) > cap) {
                Due.wrong("after " + call + ", subLoad(" + s + ") is above the cap");
            }
        }
        for (int m = 0; m < 2; m++) {
            if (bus.outstanding(m) > limit) {
                Due.wrong("after " + call + ", outstanding(" + m + ") is above the limit");
            }
        }
        if (bus.outstanding(0) + bus.outstanding(1) != loads) {
            Due.wrong("after " + call + ", the sum of outstanding is not that of subLoad");
        }
    }

    private void obeyDone(String call, int first, int t) {
        if (bus.beats(t) != bursts.get(t).len) {
            Due.wrong("after " + call + ", ticket " + t + " is DONE with " + bus.beats(t) + " beats");
        }
        for (int older = first; older < t; older++) {
            boolean before = isDone(older) && bus.doneOrder(older) < bus.doneOrder(t);
            if (bursts.get(older).isLike(bursts.get(t)) && !before) {
                Due.wrong("after " + call + ", ticket " + t + " is DONE before ticket " + older);
            }
        }
    }
}
