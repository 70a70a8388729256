/** Promise 7, step 5 of a cycle, with the counts and priorities: a test for each boundary. */
public final class AddressBoundaryTest {
    private static final boolean[] KINDS = {false, true};

    private AddressBoundaryTest() {
    }

    public static void main(String[] args) {
        emptyQueue();
        headOnly();
        limitReached();
        limitOfEachManager();
        capReached();
        capOfEachSubordinate();
        countsGrowAtOnceAtLimit();
        countsGrowAtOnceAtCap();
        doneFreesLimit();
        doneFreesCap();
        sameIdElsewhere();
        sameIdHere();
        otherIdKindOrManagerElsewhere();
        queuedElsewhere();
        doneElsewhere();
        priorityAlternates();
        soleCandidateWins();
        soleCandidateMovesPriority();
        noCandidateLeavesPriority();
        priorityOfEachPort();
        oneWinnerPerPort();
        subordinatesInOrder();
        writesBeforeReads();
        latencyTakenInOrder();
        Due.end();
    }

    /** As many ACTIVE ones of m as are asked for, up to 8; none of them leaves while held. */
    private static void activate(Watched x, int m, int count) {
        int first = x.tickets();
        for (int i = 0; i < count; i++) {
            x.issue(i >= 4, m, i % 4, 8 * (i % 4), 1);
        }
        x.step(4);
        Due.is("ACTIVE ones", x.bus.outstanding(m), count);
        Due.is("tickets", x.tickets(), first + count);
    }

    private static void emptyQueue() {
        Due.sentence("promise 7", "m's queue of that channel is not empty");
        for (boolean write : KINDS) {
            for (int m = 0; m < 2; m++) {
                Watched x = new Watched();
                x.step(3);
                x.issue(write, m, 0, 8, 1);
                x.hold();
                x.step(1);
                x.isActive(0);
                // The queue is empty again: no request comes twice.
                x.step(9);
                Due.is("outstanding", x.bus.outstanding(m), 1);
                Due.is("outstanding of the other", x.bus.outstanding(1 - m), 0);
                Due.is("subLoad(1)", x.bus.subLoad(1), 1);
            }
        }
    }

    private static void headOnly() {
        Due.sentence("promise 7", "and its head request h targets s");
        for (boolean write : KINDS) {
            for (int s = 0; s < 4; s++) {
                Watched x = new Watched(8, 1);
                x.hold();
                x.issue(write, 1, 0, 8 * s, 1);
                x.step(1);
                // The head waits for a place at s; the one behind it could have its place at once.
                x.issue(write, 0, 0, 8 * s, 1);
                x.issue(write, 0, 1, 8 * ((s + 1) % 4), 1);
                x.step(9);
                x.isQueued(1);
                x.isQueued(2);
                Due.is("outstanding(0)", x.bus.outstanding(0), 0);
            }
        }
    }

    // OUT and LOAD

    private static void limitReached() {
        Due.sentence("promise 7", "OUT(m) < limit (the clamped limit)");
        for (int limit = 1; limit <= 8; limit++) {
            for (boolean write : KINDS) {
                for (int m = 0; m < 2; m++) {
                    Watched x = new Watched(limit, 4);
                    x.hold();
                    activate(x, m, limit - 1);
                    int last = x.issue(write, m, 3, 24, 1);
                    int beyond = x.issue(write, m, 3, 24, 1);
                    x.step(1);
                    x.isActive(last);
                    x.isQueued(beyond);
                    x.step(9);
                    x.isQueued(beyond);
                    Due.is("outstanding", x.bus.outstanding(m), limit);
                }
            }
        }
    }

    private static void limitOfEachManager() {
        Due.sentence("terms", "OUT(m) is the number of ACTIVE transactions of manager m");
        for (int limit = 1; limit <= 8; limit++) {
            Watched x = new Watched(limit, 4);
            x.hold();
            activate(x, 0, limit);
            activate(x, 1, limit);
            for (int m = 0; m < 2; m++) {
                x.isQueued(x.issueRead(m, 0, 0, 1));
                x.step(5);
                Due.is("outstanding(" + m + ")", x.bus.outstanding(m), limit);
            }
        }
    }

    private static void capReached() {
        Due.sentence("promise 7", "LOAD(s) < cap (the clamped cap)");
        for (int cap = 1; cap <= 4; cap++) {
            for (boolean write : KINDS) {
                for (int s = 0; s < 4; s++) {
                    Watched x = new Watched(8, cap);
                    x.hold();
                    for (int i = 1; i < cap; i++) {
                        x.issue(i % 2 == 0, i / 2, 0, 8 * s, 1);
                    }
                    x.step(4);
                    Due.is("subLoad", x.bus.subLoad(s), cap - 1);
                    int last = x.issue(write, 1, 1, 8 * s, 1);
                    int beyond = x.issue(write, 1, 1, 8 * s, 1);
                    x.step(1);
                    x.isActive(last);
                    x.isQueued(beyond);
                    x.step(9);
                    x.isQueued(beyond);
                    Due.is("subLoad", x.bus.subLoad(s), cap);
                }
            }
        }
    }

    private static void capOfEachSubordinate() {
        Due.sentence("terms", "LOAD(s) is the number of ACTIVE transactions at subordinate s");
        for (int cap = 1; cap <= 4; cap++) {
            for (int s = 0; s < 4; s++) {
                for (int other = 0; other < 4; other++) {
                    Watched x = new Watched(8, cap);
                    x.hold();
                    for (int i = 0; i < cap; i++) {
                        x.issueRead(0, 0, 8 * s, 1);
                    }
                    x.step(cap);
                    int t = x.issueWrite(1, 0, 8 * other, 1);
                    x.step(1);
                    boolean here = other == s;
                    Due.is("status", x.bus.status(t), here ? IdInterconnect.ST_QUEUED : IdInterconnect.ST_ACTIVE);
                    Due.is("subLoad(" + other + ")", x.bus.subLoad(other), here ? cap : 1);
                    Due.is("subLoad(" + s + ")", x.bus.subLoad(s), cap);
                }
            }
        }
    }

    private static void countsGrowAtOnceAtLimit() {
        Due.sentence("promise 7", "OUT .. grow at once, and the later arbitrations of this same cycle see the new values");
        for (int limit = 1; limit <= 7; limit++) {
            Watched x = new Watched(limit, 4);
            x.hold();
            for (int s = 0; s < 4; s++) {
                x.issueWrite(0, s, 8 * s, 1);
                x.issueRead(0, s, 8 * s, 1);
            }
            // All eight stand at different ports in rising order, so that one cycle could take them all.
            x.step(1);
            Due.is("outstanding(0)", x.bus.outstanding(0), limit);
            for (int t = 0; t < 8; t++) {
                Due.is("status(" + t + ")", x.bus.status(t), t < limit ? IdInterconnect.ST_ACTIVE : IdInterconnect.ST_QUEUED);
            }
        }
    }

    private static void countsGrowAtOnceAtCap() {
        Due.sentence("promise 7", "LOAD grow at once, and the later arbitrations of this same cycle see the new values");
        for (int s = 0; s < 4; s++) {
            for (int m = 0; m < 2; m++) {
                Watched x = new Watched(8, 1);
                x.hold();
                int read = x.issueRead(m, 0, 8 * s, 1);
                int write = x.issueWrite(1 - m, 0, 8 * s, 1);
                x.step(5);
                x.isQueued(read);
                x.isActive(write);
                Due.is("subLoad", x.bus.subLoad(s), 1);
            }
        }
    }

    private static void doneFreesLimit() {
        Due.sentence("promise 7", "DONE in steps 2 and 3 of a cycle are no longer counted in OUT and LOAD", "OUT");
        for (boolean write : KINDS) {
            for (int m = 0; m < 2; m++) {
                Watched x = new Watched(1, 4);
                x.issue(write, m, 0, 0, 1);
                x.writeData(m, 1);
                x.issue(!write, m, 1, 8, 1);
                x.issue(write, m, 2, 16, 1);
                // The bursts at 0 and 8 wait in different queues; the lower subordinate goes first.
                x.step(write ? 2 : 1);
                x.isActive(0);
                x.isQueued(1);
                x.step(1);
                x.isOkay(0);
                x.isActive(1);
                x.isQueued(2);
                Due.is("outstanding", x.bus.outstanding(m), 1);
            }
        }
    }

    private static void doneFreesCap() {
        Due.sentence("promise 7", "DONE in steps 2 and 3 of a cycle are no longer counted in OUT and LOAD", "LOAD");
        for (boolean write : KINDS) {
            for (int s = 0; s < 4; s++) {
                Watched x = new Watched(8, 1);
                x.issue(write, 0, 0, 8 * s, 1);
                x.writeData(0, 1);
                x.step(write ? 2 : 1);
                x.issue(!write, 1, 1, 8 * s, 1);
                x.isActive(0);
                x.step(1);
                Due.yes("the first is DONE", x.isDone(0));
                x.isActive(1);
                Due.is("subLoad", x.bus.subLoad(s), 1);
            }
        }
    }

    // The same id elsewhere

    /** Ticket 0 is ACTIVE at s for good; ticket 1 is the request that wants in at other. */
    private static Watched twoPlaces(boolean write, int id, int s, int other) {
        Watched x = new Watched();
        x.hold();
        x.issue(write, 1, id, 8 * s, 1);
        x.writeData(1, 1);
        x.step(1);
        x.issue(write, 1, id, 8 * other, 1);
        x.writeData(1, 2);
        return x;
    }

    private static void sameIdElsewhere() {
        Due.sentence("promise 7", "no ACTIVE transaction of m, of h's kind and h's id, targets a subordinate other than s");
        for (boolean write : KINDS) {
            for (int i = 0; i < 64; i++) {
                int id = i / 16;
                int s = i / 4 % 4;
                int other = i % 4;
                if (s != other) {
                    Watched x = twoPlaces(write, id, s, other);
                    x.step(9);
                    x.isActive(0);
                    x.isQueued(1);
                    Due.is("subLoad(" + other + ")", x.bus.subLoad(other), 0);
                    x.release();
                    x.step(1);
                    Due.yes("DONE", x.isDone(0));
                    x.isActive(1);
                }
            }
        }
    }

    private static void sameIdHere() {
        Due.sentence("promise 7", "targets a subordinate other than s", "the same one does not count");
        for (boolean write : KINDS) {
            for (int i = 0; i < 16; i++) {
                Watched x = twoPlaces(write, i / 4, i % 4, i % 4);
                x.step(1);
                x.isActive(1);
                Due.is("subLoad", x.bus.subLoad(i % 4), 2);
            }
        }
    }

    private static void otherIdKindOrManagerElsewhere() {
        Due.sentence("promise 7", "of m, of h's kind and h's id", "all three count");
        for (boolean write : KINDS) {
            for (int id = 0; id < 4; id++) {
                Watched x = new Watched();
                x.hold();
                x.issue(write, 0, id, 8, 1);
                x.step(1);
                for (int other = 0; other < 4; other++) {
                    if (other != id) {
                        int t = x.issue(write, 0, other, 16, 1);
                        x.step(1);
                        x.isActive(t);
                    }
                }
                int otherKind = x.issue(!write, 0, id, 24, 1);
                int otherManager = x.issue(write, 1, id, 24, 1);
                x.step(1);
                x.isActive(otherKind);
                x.isActive(otherManager);
            }
        }
    }

    private static void queuedElsewhere() {
        Due.sentence("promise 7", "no ACTIVE transaction of m", "one that is QUEUED behind the head does not count");
        for (boolean write : KINDS) {
            Watched x = new Watched();
            x.issue(write, 0, 1, 8, 1);
            x.issue(write, 0, 1, 0, 1);
            x.step(1);
            x.isActive(0);
            x.isQueued(1);
        }
    }

    private static void doneElsewhere() {
        Due.sentence("promise 7", "no ACTIVE transaction of m", "one that is DONE does not count");
        for (boolean write : KINDS) {
            Watched x = new Watched();
            x.quick(write, 0, 1, 8);
            int t = x.issue(write, 0, 1, 0, 1);
            x.step(1);
            x.isActive(t);
        }
    }

    // Priorities

    private static void priorityAlternates() {
        Due.sentence("promise 7", "If both managers are candidates, the winner is prio of that subordinate and channel");
        for (boolean write : KINDS) {
            for (int s = 0; s < 4; s++) {
                Watched x = new Watched();
                for (int i = 0; i < 4; i++) {
                    x.issue(write, 1, 0, 8 * s, 1);
                    x.issue(write, 0, 0, 8 * s, 1);
                    x.writeData(0, i);
                    x.writeData(1, i);
                }
                int[] due = {1, 0, 3, 2, 5, 4, 7, 6};
                for (int t : due) {
                    x.isQueued(t);
                    x.step(1);
                    Due.no("ticket " + t + " has won", x.bus.status(t) == IdInterconnect.ST_QUEUED);
                }
            }
        }
    }

    /** Both managers want in at a port; answers who won. */
    private static int winner(Watched x, boolean write, int s) {
        int one = x.issue(write, 1, 2, 8 * s, 1);
        int zero = x.issue(write, 0, 2, 8 * s, 1);
        x.step(1);
        boolean zeroWon = x.bus.status(zero) == IdInterconnect.ST_ACTIVE;
        boolean oneWon = x.bus.status(one) == IdInterconnect.ST_ACTIVE;
        Due.yes("one of them has won", zeroWon != oneWon);
        return zeroWon ? 0 : 1;
    }

    private static void soleCandidateWins() {
        Due.sentence("promise 7", "otherwise the sole candidate wins");
        for (boolean write : KINDS) {
            for (int s = 0; s < 4; s++) {
                for (int m = 0; m < 2; m++) {
                    Watched x = new Watched();
                    // Twice: after the first win prio is the other manager's.
                    x.isDoneAt(x.quick(write, m, 0, 8 * s), s);
                    x.isDoneAt(x.quick(write, m, 0, 8 * s), s);
                }
            }
        }
        // Manager 0 has the priority and a head, but no place under its limit.
        Watched x = new Watched(1, 4);
        x.hold();
        x.issueRead(0, 0, 8, 1);
        x.step(1);
        x.issueWrite(0, 0, 0, 1);
        int sole = x.issueWrite(1, 0, 0, 1);
        x.step(1);
        x.isActive(sole);
    }

    private static void soleCandidateMovesPriority() {
        Due.sentence("promise 7", "Then prio := 1 - winner");
        for (boolean write : KINDS) {
            for (int s = 0; s < 4; s++) {
                for (int last = 0; last < 2; last++) {
                    Watched x = new Watched();
                    x.quick(write, 1 - last, 0, 8 * s);
                    x.quick(write, last, 0, 8 * s);
                    x.quick(write, last, 0, 8 * s);
                    Due.is("winner after " + last, winner(x, write, s), 1 - last);
                }
            }
        }
    }

    private static void noCandidateLeavesPriority() {
        Due.sentence("promise 7", "If there is no candidate, nothing happens and prio stays");
        for (boolean write : KINDS) {
            for (int s = 0; s < 4; s++) {
                for (int idle = 0; idle < 4; idle++) {
                    Watched x = new Watched();
                    x.step(1 + idle);
                    Due.is("winner at the start", winner(x, write, s), 0);
                    x = new Watched();
                    x.quick(write, 0, 0, 8 * s);
                    x.step(1 + idle);
                    Due.is("winner after manager 0", winner(x, write, s), 1);
                }
                blockedHeadsLeavePriority(write, s);
            }
        }
    }

    private static void blockedHeadsLeavePriority(boolean write, int s) {
        for (int cycles = 1; cycles <= 4; cycles++) {
            Watched x = new Watched(8, 1);
            x.issue(write, 0, 0, 8 * s, 1);
            x.step(1);
            // The place at s is taken, so that neither head is a candidate; prio is 1.
            x.hold();
            int one = x.issue(write, 1, 2, 8 * s, 1);
            int zero = x.issue(write, 0, 2, 8 * s, 1);
            x.writeData(0, 1);
            x.step(2 + cycles);
            x.isQueued(one);
            x.isQueued(zero);
            x.release();
            x.step(1);
            x.isActive(one);
            x.isQueued(zero);
        }
    }

    private static void priorityOfEachPort() {
        Due.sentence("terms", "Per subordinate and per address channel (AW, AR) there is a priority manager prio");
        for (int moved = 0; moved < 8; moved++) {
            for (int asked = 0; asked < 8; asked++) {
                Watched x = new Watched();
                x.quick(moved % 2 == 1, 0, 0, 8 * (moved / 2));
                int due = moved == asked ? 1 : 0;
                Due.is("winner at " + asked + " after a win at " + moved, winner(x, asked % 2 == 1, asked / 2), due);
            }
        }
    }

    private static void oneWinnerPerPort() {
        Due.sentence("promise 7", "The winner's head leaves its queue and becomes ACTIVE");
        for (boolean write : KINDS) {
            for (int s = 0; s < 4; s++) {
                Watched x = new Watched();
                x.hold();
                for (int i = 0; i < 2; i++) {
                    x.issue(write, 0, 0, 8 * s, 1);
                    x.issue(write, 1, 0, 8 * s, 1);
                }
                for (int taken = 1; taken <= 4; taken++) {
                    x.step(1);
                    Due.is("subLoad after " + taken, x.bus.subLoad(s), taken);
                }
            }
        }
    }

    private static void subordinatesInOrder() {
        Due.sentence("promise 7", "for s = 0, 1, 2, 3");
        for (boolean write : KINDS) {
            for (int low = 0; low < 3; low++) {
                for (int high = low + 1; high < 4; high++) {
                    Watched x = new Watched(1, 4);
                    x.hold();
                    int late = x.issue(write, 0, 0, 8 * high, 1);
                    int early = x.issue(!write, 0, 0, 8 * low, 1);
                    x.step(1);
                    x.isActive(early);
                    x.isQueued(late);
                }
            }
            Watched x = new Watched();
            x.hold();
            for (int s = 0; s < 4; s++) {
                x.issue(write, 0, s, 8 * s, 1);
                x.issue(write, 1, s, 8 * (3 - s), 1);
            }
            x.step(1);
            Due.is("rising targets go in one cycle", x.bus.outstanding(0), 4);
            Due.is("the falling ones' head lost to them", x.bus.outstanding(1), 0);
            for (int c = 1; c <= 4; c++) {
                x.step(1);
                Due.is("falling targets go one by one", x.bus.outstanding(1), c);
            }
        }
    }

    private static void writesBeforeReads() {
        Due.sentence("promise 7", "for each s first channel AW, then channel AR");
        for (int s = 0; s < 4; s++) {
            Watched x = new Watched(1, 4);
            x.hold();
            int read = x.issueRead(0, 0, 8 * s, 1);
            int write = x.issueWrite(0, 0, 8 * s, 1);
            x.step(1);
            x.isQueued(read);
            x.isActive(write);
        }
    }

    private static void latencyTakenInOrder() {
        Due.sentence("promise 7", "takes its latency (for s in 0..2, script[s][k_s % 4], then k_s grows by 1");
        for (int s = 0; s < 3; s++) {
            Watched x = new Watched();
            x.setLatency(s, 0, 9);
            x.setLatency(s, 1, 4);
            x.setLatency(s, 2, 12);
            x.setLatency(s, 3, 6);
            // Cycle 1 takes a write (9) and a read (4), cycle 2 a write (12) and a read (6), cycle 3 a read (9).
            for (int i = 0; i < 3; i++) {
                x.issueRead(0, i, 8 * s, 1);
            }
            x.issueWrite(1, 0, 8 * s, 1);
            x.issueWrite(1, 1, 8 * s, 1);
            x.writeData(1, 1);
            x.writeData(1, 2);
            x.step(40);
            Due.is("first read", x.bus.doneCycle(0), 1 + 4);
            Due.is("second read", x.bus.doneCycle(1), 2 + 6);
            Due.is("first write", x.bus.doneCycle(3), 2 + 9);
            Due.is("second write", x.bus.doneCycle(4), 3 + 12);
            // The cap of 4 holds the third read back until the first is DONE in cycle 5.
            Due.is("third read", x.bus.doneCycle(2), 5 + 9);
        }
    }
}
