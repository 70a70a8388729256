/** The end of promise 7: what holds after every call; each rule where it is closest to being broken. */
public final class StateRulesTest {
    private static final boolean[] KINDS = {false, true};

    private StateRulesTest() {
    }

    public static void main(String[] args) {
        fullIsFull();
        piledIsPiled();
        sumOfCounts();
        limitNeverPassed();
        capNeverPassed();
        beatsWhenDone();
        sameIdInOrder();
        whileTicketsLeave();
        Due.end();
    }

    /** The scene that other tests build on has every bound reached at once. */
    private static void fullIsFull() {
        Due.part("the scene of a full bus");
        Watched x = Scenes.full();
        for (int m = 0; m < 2; m++) {
            Due.is("outstanding(" + m + ")", x.bus.outstanding(m), 8);
            Due.is("pendingData(" + m + ")", x.bus.pendingData(m), 8);
            for (boolean write : KINDS) {
                Due.is("no room in a queue", x.issue(write, m, 0, 0, 1), IdInterconnect.ERR_FULL);
            }
        }
        for (int s = 0; s < 4; s++) {
            Due.is("subLoad(" + s + ")", x.bus.subLoad(s), 4);
        }
        for (int t = 0; t < 32; t++) {
            Due.is("status(" + t + ")", x.bus.status(t), t < 16 ? IdInterconnect.ST_ACTIVE : IdInterconnect.ST_QUEUED);
        }
        x.release();
        x.step(64);
        for (int t = 0; t < 32; t++) {
            Due.yes("ticket " + t + " is DONE", x.isDone(t));
        }
        Due.is("outstanding(0)", x.bus.outstanding(0), 0);
        Due.is("outstanding(1)", x.bus.outstanding(1), 0);
    }

    private static void piledIsPiled() {
        Due.part("the scene of a piled up bus");
        Watched x = Scenes.piled();
        Due.is("tickets", x.tickets(), 32);
        Due.is("beats(0)", x.bus.beats(0), 1);
        x.isActive(0);
        for (int t = 1; t < 9; t++) {
            x.isOkay(t);
        }
        for (int t = 9; t < 24; t++) {
            x.isActive(t);
        }
        for (int t = 24; t < 32; t++) {
            x.isQueued(t);
        }
        for (int m = 0; m < 2; m++) {
            Due.is("outstanding(" + m + ")", x.bus.outstanding(m), 8);
            for (boolean write : KINDS) {
                Due.is("no slot", x.issue(write, m, 0, 0, 1), IdInterconnect.ERR_SLOT);
            }
        }
    }

    private static int loads(Watched x) {
        return x.bus.subLoad(0) + x.bus.subLoad(1) + x.bus.subLoad(2) + x.bus.subLoad(3);
    }

    private static void sumOfCounts() {
        Due.sentence("promise 7", "outstanding(0) + outstanding(1) == subLoad(0) + subLoad(1) + subLoad(2) + subLoad(3)");
        Watched x = new Watched();
        int most = 0;
        for (int round = 0; round < 200; round++) {
            press(x, round, round % 32);
            most = Math.max(most, loads(x));
            Due.is("the sums", x.bus.outstanding(0) + x.bus.outstanding(1), loads(x));
        }
        Due.is("the most that can be ACTIVE was reached", most, 16);
        x.release();
        drain(x);
        Due.is("none is left", loads(x), 0);
        Due.is("none is left", x.bus.outstanding(0) + x.bus.outstanding(1), 0);
    }

    /** All that can be issued is issued, and the flags change with the phase; every cycle is looked at. */
    private static void press(Watched x, int round, int phase) {
        for (int m = 0; m < 2; m++) {
            x.setReady(m, phase >= 20, phase >= 20 && phase % 3 != m);
            for (int s = 0; s < 4; s++) {
                x.issueRead(m, s, 8 * s, 1 + round % 4);
                x.issueWrite(m, s, 8 * s + 4, 1 + (round + m) % 4);
            }
            x.writeData(m, round);
            x.writeData(m, -round);
        }
        x.step(1);
    }

    private static void drain(Watched x) {
        for (int i = 0; i < 200; i++) {
            x.writeData(0, i);
            x.writeData(1, i);
            x.step(1);
        }
    }

    private static void limitNeverPassed() {
        Due.sentence("promise 7", "outstanding(m) <= the clamped limit for each m");
        for (int limit = -1; limit <= 10; limit++) {
            Watched x = new Watched(limit, 4);
            int[] most = {0, 0};
            for (int round = 0; round < 100; round++) {
                press(x, round, round % 32);
                for (int m = 0; m < 2; m++) {
                    most[m] = Math.max(most[m], x.bus.outstanding(m));
                }
            }
            Due.is("most of manager 0 under " + limit, most[0], x.limit);
            Due.is("most of manager 1 under " + limit, most[1], x.limit);
        }
    }

    private static void capNeverPassed() {
        Due.sentence("promise 7", "subLoad(s) <= the clamped cap for each s");
        for (int cap = -1; cap <= 6; cap++) {
            Watched x = new Watched(8, cap);
            int[] most = {0, 0, 0, 0};
            for (int round = 0; round < 100; round++) {
                press(x, round, round % 32);
                for (int s = 0; s < 4; s++) {
                    most[s] = Math.max(most[s], x.bus.subLoad(s));
                }
            }
            for (int s = 0; s < 4; s++) {
                Due.is("most at " + s + " under " + cap, most[s], x.cap);
            }
        }
    }

    private static void beatsWhenDone() {
        Due.sentence("promise 7", "every VALID ticket with status ST_OKAY or ST_DECERR has beats(t) equal to its burst length");
        for (boolean write : KINDS) {
            for (int a = 0; a < 32; a++) {
                for (int len = 1; len <= 4 && a % 8 + len <= 8; len++) {
                    Watched x = new Watched();
                    x.issue(write, a % 2, a % 4, a, len);
                    for (int i = 0; i < 8; i++) {
                        x.writeData(a % 2, i);
                        x.step(1);
                    }
                    x.isDoneAt(0, a / 8);
                    Due.is("beats(0)", x.bus.beats(0), len);
                }
            }
        }
    }

    private static void sameIdInOrder() {
        Due.sentence("promise 7", "if t2 is DONE then t1 is DONE and doneOrder(t1) < doneOrder(t2)");
        for (boolean write : KINDS) {
            for (int m = 0; m < 2; m++) {
                for (int first = 0; first < 4; first++) {
                    // Each one is ready long before the one that goes before it.
                    Watched x = new Watched();
                    for (int s = 0; s < 3; s++) {
                        for (int i = 0; i < 4; i++) {
                            x.setLatency(s, (first + i) % 4, 15 - 4 * i);
                        }
                    }
                    for (int i = 0; i < 4; i++) {
                        x.issue(write, m, 3, 8 * (first % 3) + i, 1);
                        x.writeData(m, i);
                    }
                    for (int i = 0; i < 80; i++) {
                        x.step(1);
                    }
                    for (int t = 0; t < 4; t++) {
                        Due.is("doneOrder(" + t + ")", x.bus.doneOrder(t), t);
                    }
                }
            }
        }
    }

    private static void whileTicketsLeave() {
        Due.sentence("promise 7", "For VALID tickets t1 < t2", "while tickets stop being VALID");
        Watched x = new Watched(6, 3);
        int left = 0;
        for (int round = 0; round < 400; round++) {
            int oldest = Math.max(0, x.tickets() - 32);
            press(x, round, (round * 7) % 32);
            x.setLatency(round % 3, round % 4, 1 + round % 15);
            left += Math.max(0, x.tickets() - 32) - oldest;
        }
        Due.yes("many tickets have left", left > 100);
        x.release();
        drain(x);
        for (int t = x.tickets() - 32; t < x.tickets(); t++) {
            Due.yes("ticket " + t + " is DONE", x.isDone(t));
        }
        Due.is("none is left", loads(x), 0);
    }
}
