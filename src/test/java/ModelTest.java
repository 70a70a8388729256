/** Long runs of calls, the same each time, whose every answer is compared with the model's (promises 1 to 15). */
public final class ModelTest {
    private static final int RUNS = 400;
    private static final int CALLS = 500;
    private static long seed;

    private ModelTest() {
    }

    public static void main(String[] args) {
        for (int run = 0; run < RUNS && Due.wrongSoFar() == 0; run++) {
            oneRun(run);
        }
        coverage();
        Due.end();
    }

    private static int full = 0;
    private static int slotRefusals = 0;
    private static int argRefusals = 0;
    private static int decerrs = 0;

    /** A run that never meets an edge proves nothing about it. */
    private static void coverage() {
        Due.part("what the runs met");
        Due.yes("ERR_ARG", argRefusals > 1000);
        Due.yes("ERR_FULL", full > 1000);
        Due.yes("ERR_SLOT", slotRefusals > 100);
        Due.yes("DECERR", decerrs > 1000);
    }

    private static void oneRun(int run) {
        seed = 7919L * run + 17;
        int limit = run % 4 == 0 ? pick(-3, 12) : 8;
        int cap = run % 5 == 0 ? pick(-3, 8) : 4;
        IdInterconnect x = new IdInterconnect(limit, cap);
        Model y = new Model(limit, cap);
        // How eagerly a run steps decides whether its queues stay empty or stand full.
        int eagerness = pick(1, 6);
        int wide = pick(0, 3);
        Due.part("run " + run + ", new (" + limit + ", " + cap + ")");
        compare(x, y);
        for (int call = 0; call < CALLS && Due.wrongSoFar() == 0; call++) {
            String told = oneCall(x, y, eagerness, wide);
            Due.part("run " + run + ", call " + call + " " + told);
            compare(x, y);
        }
        for (Model.Burst b : y.bursts) {
            decerrs += b.state == IdInterconnect.ST_DECERR ? 1 : 0;
        }
    }

    private static String oneCall(IdInterconnect x, Model y, int eagerness, int wide) {
        int kind = pick(0, 11 + eagerness);
        if (kind < 5) {
            return issue(x, y, kind < 3, wide);
        }
        if (kind < 9) {
            int m = pick(0, 19) == 0 ? pick(-2, 3) : pick(0, 1);
            int value = (int) (next() - (1L << 30));
            Due.is("writeData(" + m + ", " + value + ")", bit(x.writeData(m, value)), bit(y.writeData(m, value)));
            return "writeData";
        }
        if (kind == 9) {
            int s = pick(-1, 4);
            int idx = pick(-1, 4);
            int lat = pick(0, 3) == 0 ? pick(-1, 17) : pick(1, 6);
            Due.is("setLatency", bit(x.setLatency(s, idx, lat)), bit(y.setLatency(s, idx, lat)));
            return "setLatency(" + s + ", " + idx + ", " + lat + ")";
        }
        if (kind == 10) {
            int m = pick(-1, 2);
            boolean b = pick(0, 2) > 0;
            boolean r = pick(0, 2) > 0;
            Due.is("setReady", bit(x.setReady(m, b, r)), bit(y.setReady(m, b, r)));
            return "setReady(" + m + ", " + b + ", " + r + ")";
        }
        int n = pick(0, 30) == 0 ? pick(-2, 66) : pick(0, 4) == 0 ? pick(1, 5) : 1;
        Due.is("step(" + n + ")", bit(x.step(n)), bit(y.step(n)));
        return "step(" + n + ")";
    }

    private static String issue(IdInterconnect x, Model y, boolean write, int wide) {
        boolean wrongInput = pick(0, 9) == 0;
        int m = wrongInput ? pick(-1, 2) : pick(0, 1);
        int id = wrongInput ? pick(-1, 4) : pick(0, wide);
        int addr = wrongInput ? pick(-2, 33) : pick(0, 2) == 0 ? pick(0, 7) : pick(0, 31);
        int len = wrongInput ? pick(-1, 6) : pick(1, Math.min(4, 8 - addr % 8));
        int want = y.issue(write, m, id, addr, len);
        int got = write ? x.issueWrite(m, id, addr, len) : x.issueRead(m, id, addr, len);
        String call = (write ? "issueWrite(" : "issueRead(") + m + ", " + id + ", " + addr + ", " + len + ")";
        Due.is(call, got, want);
        full += want == IdInterconnect.ERR_FULL ? 1 : 0;
        slotRefusals += want == IdInterconnect.ERR_SLOT ? 1 : 0;
        argRefusals += want == IdInterconnect.ERR_ARG ? 1 : 0;
        return call;
    }

    private static void compare(IdInterconnect x, Model y) {
        Due.is("cycle()", x.cycle(), y.c);
        for (int m = -1; m <= 2; m++) {
            Due.is("outstanding(" + m + ")", x.outstanding(m), y.outstanding(m));
            Due.is("pendingData(" + m + ")", x.pendingData(m), y.pendingData(m));
        }
        for (int s = -1; s <= 4; s++) {
            Due.is("subLoad(" + s + ")", x.subLoad(s), y.subLoad(s));
        }
        for (int a = -1; a <= 24; a++) {
            Due.is("memory(" + a + ")", x.memory(a), y.memory(a));
        }
        for (int t = y.bursts.size() - 35; t <= y.bursts.size() + 1; t++) {
            compareTicket(x, y, t);
        }
        compareInvariants(x, y);
    }

    private static void compareTicket(IdInterconnect x, Model y, int t) {
        Due.is("status(" + t + ")", x.status(t), y.status(t));
        Due.is("beats(" + t + ")", x.beats(t), y.beats(t));
        Due.is("doneOrder(" + t + ")", x.doneOrder(t), y.doneOrder(t));
        Due.is("doneCycle(" + t + ")", x.doneCycle(t), y.doneCycle(t));
        for (int i = -1; i <= 4; i++) {
            Due.is("readData(" + t + ", " + i + ")", x.readData(t, i), y.readData(t, i));
        }
    }

    /** What the end of promise 7 says of every state, asked of the program alone. */
    private static void compareInvariants(IdInterconnect x, Model y) {
        int loads = x.subLoad(0) + x.subLoad(1) + x.subLoad(2) + x.subLoad(3);
        Due.is("the sum of outstanding", x.outstanding(0) + x.outstanding(1), loads);
        for (int m = 0; m < 2; m++) {
            Due.yes("outstanding(" + m + ") within the limit", x.outstanding(m) <= y.limit);
        }
        for (int s = 0; s < 4; s++) {
            Due.yes("subLoad(" + s + ") within the cap", x.subLoad(s) <= y.cap);
        }
        for (int t = Math.max(0, y.bursts.size() - 32); t < y.bursts.size(); t++) {
            if (x.status(t) >= IdInterconnect.ST_OKAY) {
                Due.is("beats(" + t + ") when DONE", x.beats(t), y.bursts.get(t).len);
                compareOrder(x, y, t);
            }
        }
    }

    private static void compareOrder(IdInterconnect x, Model y, int later) {
        Model.Burst b = y.bursts.get(later);
        for (int t = Math.max(0, y.bursts.size() - 32); t < later; t++) {
            Model.Burst a = y.bursts.get(t);
            if (a.write == b.write && a.manager == b.manager && a.id == b.id) {
                boolean before = x.doneOrder(t) >= 0 && x.doneOrder(t) < x.doneOrder(later);
                Due.yes("ticket " + t + " DONE before " + later, before);
            }
        }
    }

    private static int bit(boolean b) {
        return b ? 1 : 0;
    }

    /** A fixed sequence, so that a failing run fails again. */
    private static long next() {
        seed = seed * 6364136223846793005L + 1442695040888963407L;
        return seed >>> 33;
    }

    private static int pick(int least, int most) {
        return least + (int) (next() % (most - least + 1));
    }
}
