/** Promise 1: what a new object takes and how it starts, a test for each clause. */
public final class StartBoundaryTest {
    private static final int LOW = Integer.MIN_VALUE;
    private static final int HIGH = Integer.MAX_VALUE;

    private StartBoundaryTest() {
    }

    public static void main(String[] args) {
        anyTwoInts();
        lowLimit();
        highLimit();
        otherLimits();
        lowCap();
        highCap();
        otherCaps();
        cycleAtStart();
        noTicketAtStart();
        completionAtStart();
        addressQueuesAtStart();
        dataQueuesAtStart();
        memoryAtStart();
        scriptsAtStart();
        acceptedAtStart();
        countsAtStart();
        pointersAtStart();
        prioritiesAtStart();
        flagsAtStart();
        Due.end();
    }

    // Limit and cap

    /** Sixteen bursts of m want in and none leaves, so that the limit alone bounds what is ACTIVE. */
    private static int mostOfManager(int m, int limit, int cap) {
        Watched x = new Watched(limit, cap);
        x.hold();
        for (int round = 0; round < 2; round++) {
            for (int s = 0; s < 4; s++) {
                x.issueRead(m, s, 8 * s, 1);
                x.issueWrite(m, s, 8 * s, 1);
            }
            x.step(8);
        }
        return x.bus.outstanding(m);
    }

    /** Six bursts want in at s and none leaves, so that the cap alone bounds what is ACTIVE. */
    private static int mostAtSubordinate(int s, int limit, int cap) {
        Watched x = new Watched(limit, cap);
        x.hold();
        for (int i = 0; i < 3; i++) {
            x.issueRead(0, 0, 8 * s, 1);
            x.issueWrite(1, 0, 8 * s, 1);
        }
        x.step(9);
        return x.bus.subLoad(s);
    }

    private static void limitIs(int given, int due) {
        for (int m = 0; m < 2; m++) {
            Due.is("most ACTIVE of manager " + m + " under limit " + given, mostOfManager(m, given, 4), due);
        }
    }

    private static void capIs(int given, int due) {
        for (int s = 0; s < 4; s++) {
            Due.is("most ACTIVE at " + s + " under cap " + given, mostAtSubordinate(s, 8, given), due);
        }
    }

    private static void anyTwoInts() {
        Due.sentence("promise 1", "accepts any two ints");
        Due.is("(LOW, LOW) at a manager", mostOfManager(0, LOW, LOW), 1);
        Due.is("(HIGH, HIGH) at a manager", mostOfManager(0, HIGH, HIGH), 8);
        Due.is("(LOW, HIGH) at a manager", mostOfManager(0, LOW, HIGH), 1);
        // Four subordinates take one each.
        Due.is("(HIGH, LOW) at a manager", mostOfManager(0, HIGH, LOW), 4);
        Due.is("(LOW, LOW) at a subordinate", mostAtSubordinate(0, LOW, LOW), 1);
        Due.is("(HIGH, HIGH) at a subordinate", mostAtSubordinate(0, HIGH, HIGH), 4);
        // Two managers send one each.
        Due.is("(LOW, HIGH) at a subordinate", mostAtSubordinate(0, LOW, HIGH), 2);
        Due.is("(HIGH, LOW) at a subordinate", mostAtSubordinate(0, HIGH, LOW), 1);
    }

    private static void lowLimit() {
        Due.sentence("promise 1", "limit .. a value below 1 becomes 1");
        limitIs(0, 1);
        limitIs(-1, 1);
        limitIs(-8, 1);
        limitIs(LOW, 1);
    }

    private static void highLimit() {
        Due.sentence("promise 1", "limit .. a value above 8 becomes 8");
        limitIs(9, 8);
        limitIs(16, 8);
        limitIs(HIGH, 8);
    }

    private static void otherLimits() {
        Due.sentence("promise 1", "limit .. others stay");
        for (int limit = 1; limit <= 8; limit++) {
            limitIs(limit, limit);
        }
    }

    private static void lowCap() {
        Due.sentence("promise 1", "cap .. clamped into 1..4 in the same way", "below 1");
        capIs(0, 1);
        capIs(-1, 1);
        capIs(-4, 1);
        capIs(LOW, 1);
    }

    private static void highCap() {
        Due.sentence("promise 1", "cap .. clamped into 1..4 in the same way", "above 4");
        capIs(5, 4);
        capIs(8, 4);
        capIs(HIGH, 4);
    }

    private static void otherCaps() {
        Due.sentence("promise 1", "cap .. clamped into 1..4 in the same way", "others stay");
        for (int cap = 1; cap <= 4; cap++) {
            capIs(cap, cap);
        }
    }

    // After construction

    private static void cycleAtStart() {
        Due.sentence("promise 1", "the cycle counter C is 0");
        Watched x = new Watched();
        Due.is("cycle()", x.bus.cycle(), 0);
        x.step(1);
        Due.is("cycle()", x.bus.cycle(), 1);
    }

    private static void noTicketAtStart() {
        Due.sentence("promise 1", "T is 0 (no ticket is VALID)");
        Watched x = new Watched();
        for (int t = -40; t <= 40; t++) {
            x.isNone(t);
            Due.is("beats(" + t + ")", x.bus.beats(t), -1);
            Due.is("readData(" + t + ", 0)", x.bus.readData(t, 0), 0);
            Due.is("doneOrder(" + t + ")", x.bus.doneOrder(t), -1);
            Due.is("doneCycle(" + t + ")", x.bus.doneCycle(t), -1);
        }
        Due.is("the first ticket", x.issueRead(1, 3, 31, 1), 0);
        Due.is("the second ticket", x.issueWrite(0, 3, 31, 1), 1);
    }

    private static void completionAtStart() {
        Due.sentence("promise 1", "the next completion number is 0");
        for (int kind = 0; kind < 2; kind++) {
            Watched x = new Watched();
            Due.is("doneOrder", x.bus.doneOrder(x.quick(kind == 1, 1, 2, 9)), 0);
            Due.is("doneOrder", x.bus.doneOrder(x.quick(kind == 0, 0, 2, 9)), 1);
        }
    }

    private static void addressQueuesAtStart() {
        Due.sentence("promise 1", "all AW, AR .. queues are empty");
        Watched idle = new Watched();
        Answers before = Answers.of(idle.bus);
        idle.step(64);
        Answers.of(idle.bus).mustBe("64 cycles", before, question -> question.name().equals("cycle()"));
        for (int m = 0; m < 2; m++) {
            for (int kind = 0; kind < 2; kind++) {
                Watched x = new Watched();
                for (int i = 0; i < 4; i++) {
                    Due.is("there is room for request " + i, x.issue(kind == 1, m, 0, 0, 1), i);
                }
                x.step(1);
                x.isActive(0);
                x.isQueued(1);
            }
        }
    }

    private static void dataQueuesAtStart() {
        Due.sentence("promise 1", "all .. W queues are empty");
        for (int m = 0; m < 2; m++) {
            Watched x = new Watched();
            Due.is("pendingData", x.bus.pendingData(m), 0);
            x.issueWrite(m, 0, 0, 1);
            x.step(9);
            Due.is("a write finds no value", x.bus.beats(0), 0);
            for (int i = 0; i < 8; i++) {
                Due.yes("there is room for value " + i, x.writeData(m, 50 + i));
            }
            x.step(2);
            Due.is("the first value is the first written", x.bus.memory(0), 50);
        }
    }

    private static void memoryAtStart() {
        Due.sentence("promise 1", "all memory words 0..23 are 0");
        Watched x = new Watched();
        for (int a = 0; a < 24; a++) {
            Due.is("memory(" + a + ")", x.bus.memory(a), 0);
        }
        for (int a = 0; a < 24; a += 4) {
            int t = x.issueRead(0, 0, a, 4);
            x.step(5);
            for (int i = 0; i < 4; i++) {
                Due.is("beat " + i + " at " + a, x.bus.readData(t, i), 0);
            }
        }
    }

    private static void scriptsAtStart() {
        Due.sentence("promise 1", "every script entry of subordinates 0..2 is 1");
        for (int s = 0; s < 3; s++) {
            Watched x = new Watched();
            for (int i = 0; i < 4; i++) {
                Due.is("delay " + i + " at " + s, x.delayOfRead(0, 8 * s), 1);
            }
        }
    }

    private static void acceptedAtStart() {
        Due.sentence("promise 1", "every k_s is 0");
        for (int s = 0; s < 3; s++) {
            for (int kind = 0; kind < 2; kind++) {
                Watched x = new Watched();
                x.setLatency(s, 0, 9);
                int delay = kind == 0 ? x.delayOfRead(1, 8 * s) : x.delayOfWrite(1, 8 * s);
                Due.is("the first delay at " + s, delay, 9);
            }
        }
    }

    private static void countsAtStart() {
        Due.sentence("promise 1", "OUT(m) and LOAD(s) are 0 everywhere");
        Watched x = new Watched();
        for (int m = 0; m < 2; m++) {
            Due.is("outstanding(" + m + ")", x.bus.outstanding(m), 0);
        }
        for (int s = 0; s < 4; s++) {
            Due.is("subLoad(" + s + ")", x.bus.subLoad(s), 0);
        }
    }

    private static void pointersAtStart() {
        Due.sentence("promise 1", "bPtr and rPtr of both managers are 0");
        for (int m = 0; m < 2; m++) {
            for (int kind = 0; kind < 2; kind++) {
                Watched x = new Watched();
                x.hold();
                for (int id = 3; id >= 0; id--) {
                    x.issue(kind == 1, m, id, 0, 1);
                    x.writeData(m, id);
                }
                x.step(9);
                x.release();
                x.step(1);
                // Id 0 has ticket 3.
                Due.is("doneOrder(3)", x.bus.doneOrder(3), 0);
            }
        }
    }

    private static void prioritiesAtStart() {
        Due.sentence("promise 1", "every prio is 0");
        for (int s = 0; s < 4; s++) {
            for (int kind = 0; kind < 2; kind++) {
                Watched x = new Watched();
                x.issue(kind == 1, 1, 0, 8 * s, 1);
                x.issue(kind == 1, 0, 0, 8 * s, 1);
                x.step(1);
                x.isQueued(0);
                x.isActive(1);
            }
        }
    }

    private static void flagsAtStart() {
        Due.sentence("promise 1", "bReady and rReady of both managers are true");
        for (int m = 0; m < 2; m++) {
            Watched x = new Watched();
            x.isOkay(x.quick(true, m, 0, 0));
            x.isOkay(x.quick(false, m, 0, 0));
        }
    }
}
