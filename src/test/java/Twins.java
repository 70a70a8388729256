import java.util.function.ToIntFunction;

/** Two buses that get the same calls must answer the same; this shows a difference that no getter tells at once. */
final class Twins {
    private final IdInterconnect x;
    private final IdInterconnect twin;
    private final String when;
    private int tickets;

    private Twins(String when, IdInterconnect x, IdInterconnect twin, int tickets) {
        this.when = when;
        this.x = x;
        this.twin = twin;
        this.tickets = tickets;
    }

    /** Goes on under the flags that the buses have, which would show a change of a flag; then with all flags true. */
    static void goOn(String when, IdInterconnect x, IdInterconnect twin, int tickets) {
        Twins twins = new Twins(when, x, twin, tickets);
        twins.mustAgree("at once");
        twins.rounds(0, 10);
        twins.setReady(true);
        twins.rounds(10, 50);
    }

    /** Lets all ids wait before the first answer, which would show a change of a pointer. */
    static void pileUp(String when, IdInterconnect x, IdInterconnect twin, int tickets) {
        Twins twins = new Twins(when, x, twin, tickets);
        twins.setReady(false);
        twins.rounds(0, 20);
        twins.setReady(true);
        twins.rounds(20, 40);
    }

    /** Only cycles, so that no call is refused on either bus; then with all flags true. */
    static void drain(String when, IdInterconnect x, IdInterconnect twin, int tickets) {
        Twins twins = new Twins(when, x, twin, tickets);
        twins.cycles(20);
        twins.setReady(true);
        twins.cycles(40);
    }

    private void setReady(boolean ready) {
        both("setReady(0)", bus -> bus.setReady(0, ready, ready) ? 1 : 0);
        both("setReady(1)", bus -> bus.setReady(1, ready, ready) ? 1 : 0);
    }

    /** Both managers want in at the same ports with all ids, so that priorities and scripts show. */
    private void rounds(int from, int to) {
        for (int round = from; round < to; round++) {
            int s = round % 4;
            for (int m = 0; m < 2; m++) {
                int manager = m;
                int value = 10 * round + m;
                issue("issueRead", bus -> bus.issueRead(manager, s, 8 * s + manager, 1 + s % 2));
                issue("issueWrite", bus -> bus.issueWrite(manager, s, 8 * s + 2, 1));
                both("writeData", bus -> bus.writeData(manager, value) ? 1 : 0);
            }
            cycles(1);
        }
    }

    private void cycles(int count) {
        for (int i = 0; i < count; i++) {
            both("step", bus -> bus.step(1) ? 1 : 0);
            mustAgree("in cycle " + twin.cycle());
        }
    }

    private void issue(String call, ToIntFunction<IdInterconnect> run) {
        if (both(call, run) >= 0) {
            tickets++;
        }
    }

    private int both(String call, ToIntFunction<IdInterconnect> run) {
        int due = run.applyAsInt(twin);
        Due.is(call + " after " + when, run.applyAsInt(x), due);
        return due;
    }

    private void mustAgree(String moment) {
        Answers due = Answers.of(twin, tickets - 34, tickets + 1);
        Answers.of(x, tickets - 34, tickets + 1).mustBe(moment + " after " + when, due);
    }
}
