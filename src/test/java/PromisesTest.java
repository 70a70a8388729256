/** The promises with ordinary inputs, several of them at work together. */
public final class PromisesTest {
    private static final int LOW = Integer.MIN_VALUE;
    private static final int HIGH = Integer.MAX_VALUE;
    private static final int[] NOT_MANAGERS = {-1, 2, 3, LOW, HIGH};

    private PromisesTest() {
    }

    public static void main(String[] args) {
        writesTakeDataInTicketOrder();
        writeDataWrapsAround();
        latencyScript();
        latencyOfAcceptedStays();
        latencyOfWrites();
        latencyOfErrorSubordinate();
        readyHoldsBack();
        responseOrderById();
        beatsInterleave();
        sameIdInOrder();
        readSeesSameCycleWrite();
        readSamplesBeatByBeat();
        oneDataValuePerCycle();
        priorityPerChannelAndSubordinate();
        loneWinnerMovesPriority();
        addressChannelOrder();
        subordinateOrderUnderLimit();
        severalHeadsInOneCycle();
        sameIdElsewhereBlocks();
        doneFreesInSameCycle();
        statusStates();
        beatsOfBothKinds();
        readDataEdges();
        doneNumbers();
        loads();
        pendingCounts();
        Due.end();
    }

    private static IdInterconnect fresh() {
        return new IdInterconnect(8, 4);
    }

    // Promise 3

    private static int issue(IdInterconnect x, boolean write, int m, int id, int addr, int len) {
        return write ? x.issueWrite(m, id, addr, len) : x.issueRead(m, id, addr, len);
    }

    private static void writesTakeDataInTicketOrder() {
        Due.part("promise 3, data");
        IdInterconnect x = fresh();
        x.issueWrite(0, 0, 24, 2);
        x.issueWrite(0, 1, 0, 1);
        for (int i = 0; i < 3; i++) {
            x.writeData(0, 5 + i);
        }
        x.step(1);
        // The error write stands before the other in ticket order, although subordinate 0 comes before 3.
        Due.is("status(1)", x.status(1), IdInterconnect.ST_QUEUED);
        x.step(1);
        Due.is("status(1)", x.status(1), IdInterconnect.ST_ACTIVE);
        Due.is("beats(0)", x.beats(0), 1);
        Due.is("beats(1)", x.beats(1), 0);
        x.step(8);
        Due.is("status(0)", x.status(0), IdInterconnect.ST_DECERR);
        Due.is("status(1)", x.status(1), IdInterconnect.ST_OKAY);
        Due.is("memory(0)", x.memory(0), 7);
        Due.is("pendingData(0)", x.pendingData(0), 0);
        Due.is("doneCycle(0)", x.doneCycle(0), 4);
        Due.is("doneCycle(1)", x.doneCycle(1), 5);
    }

    // Promise 4

    private static void writeDataWrapsAround() {
        Due.part("promise 4, first in first out");
        IdInterconnect x = fresh();
        int[] values = {LOW, HIGH, -1, 0, 77, 1 << 30, -3, 12, 99, 100, 101, 102};
        for (int i = 0; i < 8; i++) {
            x.writeData(1, values[i]);
        }
        x.issueWrite(1, 0, 8, 4);
        x.step(5);
        Due.is("pendingData(1)", x.pendingData(1), 4);
        for (int i = 8; i < 12; i++) {
            Due.yes("writeData", x.writeData(1, values[i]));
        }
        Due.no("ninth", x.writeData(1, 5));
        x.issueWrite(1, 0, 12, 4);
        x.issueWrite(1, 0, 8, 1);
        x.issueWrite(1, 0, 16, 3);
        x.step(30);
        Due.is("memory(8)", x.memory(8), values[8]);
        for (int i = 1; i < 8; i++) {
            Due.is("memory(" + (8 + i) + ")", x.memory(8 + i), values[i]);
        }
        for (int i = 0; i < 3; i++) {
            Due.is("memory(" + (16 + i) + ")", x.memory(16 + i), values[9 + i]);
        }
        Due.is("pendingData(1)", x.pendingData(1), 0);
    }

    // Promise 5

    /** The cycles from acceptance to the first beat of a read on an idle object. */
    private static int delayOfRead(IdInterconnect x, int addr) {
        int t = x.issueRead(0, 0, addr, 1);
        x.step(1);
        int accepted = x.cycle();
        x.step(20);
        return x.doneCycle(t) - accepted;
    }

    private static void latencyScript() {
        Due.part("promise 5, script");
        IdInterconnect x = fresh();
        for (int s = 0; s < 3; s++) {
            for (int idx = 0; idx < 4; idx++) {
                x.setLatency(s, idx, 15 - 4 * s - idx);
            }
        }
        for (int round = 0; round < 6; round++) {
            for (int s = 0; s < 3; s++) {
                Due.is("delay " + round + " at " + s, delayOfRead(x, 8 * s + 7), 15 - 4 * s - round % 4);
            }
        }
        // Setting an entry does not move the script's place.
        x.setLatency(0, 2, 6);
        Due.is("delay", delayOfRead(x, 0), 6);
        Due.is("delay", delayOfRead(x, 0), 12);
    }

    private static void latencyOfAcceptedStays() {
        Due.part("promise 5, accepted before");
        IdInterconnect x = fresh();
        x.setLatency(0, 0, 5);
        x.setLatency(1, 0, 4);
        x.issueRead(0, 0, 0, 1);
        x.issueWrite(1, 0, 8, 1);
        x.step(1);
        x.setLatency(0, 0, 9);
        x.setLatency(1, 0, 9);
        x.writeData(1, 3);
        x.step(20);
        Due.is("doneCycle(0)", x.doneCycle(0), 6);
        Due.is("doneCycle(1)", x.doneCycle(1), 6);
    }

    private static void latencyOfWrites() {
        Due.part("promise 5, reads and writes share a script");
        IdInterconnect x = fresh();
        x.setLatency(2, 0, 7);
        x.setLatency(2, 1, 3);
        x.issueRead(0, 0, 16, 1);
        x.issueWrite(0, 0, 16, 2);
        x.writeData(0, 1);
        x.step(1);
        // AW goes before AR: the write has the first entry, the read the second.
        x.step(10);
        Due.is("doneCycle(0)", x.doneCycle(0), 4);
        Due.is("status(1)", x.status(1), IdInterconnect.ST_ACTIVE);
        x.writeData(0, 2);
        // The last value moves in cycle 12, so the ready cycle is 19.
        x.step(7);
        Due.is("status(1)", x.status(1), IdInterconnect.ST_ACTIVE);
        x.step(1);
        Due.is("doneCycle(1)", x.doneCycle(1), 19);
    }

    private static void latencyOfErrorSubordinate() {
        Due.part("promise 5, error subordinate");
        IdInterconnect x = fresh();
        for (int s = 0; s < 3; s++) {
            for (int idx = 0; idx < 4; idx++) {
                x.setLatency(s, idx, 8);
            }
        }
        for (int i = 0; i < 6; i++) {
            Due.is("delay", delayOfRead(x, 24 + i), 1);
        }
    }

    // Promise 6

    private static void readyHoldsBack() {
        Due.part("promise 6");
        IdInterconnect x = fresh();
        for (int m = 0; m < 2; m++) {
            x.issueRead(m, 0, 0, 1);
            x.issueWrite(m, 0, 8, 1);
            x.writeData(m, 40 + m);
        }
        x.setReady(0, false, true);
        x.setReady(1, true, false);
        x.step(10);
        Due.is("read of 0", x.status(0), IdInterconnect.ST_OKAY);
        Due.is("write of 0", x.status(1), IdInterconnect.ST_ACTIVE);
        Due.is("write of 0 has its data", x.beats(1), 1);
        Due.is("read of 1", x.status(2), IdInterconnect.ST_ACTIVE);
        Due.is("read of 1 has no beat", x.beats(2), 0);
        Due.is("write of 1", x.status(3), IdInterconnect.ST_OKAY);
        Due.is("memory(8)", x.memory(8), 41);
        x.setReady(0, true, false);
        x.setReady(1, false, true);
        Due.is("nothing moves without a cycle", x.status(1), IdInterconnect.ST_ACTIVE);
        x.step(1);
        Due.is("doneCycle(1)", x.doneCycle(1), 11);
        Due.is("doneCycle(2)", x.doneCycle(2), 11);
        Due.is("memory(8)", x.memory(8), 40);
    }

    // Promise 7

    private static void responseOrderById() {
        Due.part("promise 7, write responses");
        IdInterconnect x = fresh();
        x.setReady(0, false, true);
        for (int id = 0; id < 4; id++) {
            x.issueWrite(0, 3 - id, 8 * id, 1);
            x.writeData(0, 10 + id);
        }
        x.step(10);
        x.setReady(0, true, true);
        x.step(1);
        // bPtr is 0 and id 0 is ticket 3's.
        Due.is("doneCycle(3)", x.doneCycle(3), 11);
        Due.is("status(2)", x.status(2), IdInterconnect.ST_ACTIVE);
        x.step(2);
        Due.is("doneCycle(2)", x.doneCycle(2), 12);
        Due.is("doneCycle(1)", x.doneCycle(1), 13);
        x.issueWrite(0, 0, 8, 1);
        x.writeData(0, 20);
        x.setReady(0, false, true);
        x.step(5);
        x.setReady(0, true, true);
        x.step(2);
        // bPtr stood at 3 while bReady was false, so id 3 goes before id 0.
        Due.is("doneCycle(0)", x.doneCycle(0), 19);
        Due.is("doneCycle(4)", x.doneCycle(4), 20);
        Due.is("memory(0)", x.memory(0), 10);
        Due.is("memory(8)", x.memory(8), 20);
        Due.is("memory(16)", x.memory(16), 12);
    }

    private static void beatsInterleave() {
        Due.part("promise 7, read data");
        IdInterconnect x = fresh();
        x.setReady(1, true, false);
        x.issueRead(1, 2, 0, 2);
        x.issueRead(1, 0, 8, 3);
        x.issueRead(1, 3, 24, 1);
        x.step(6);
        x.setReady(1, true, true);
        int[][] due = {{0, 1, 0}, {1, 1, 0}, {1, 1, 1}, {1, 2, 1}, {2, 2, 1}, {2, 3, 1}};
        for (int i = 0; i < due.length; i++) {
            x.step(1);
            for (int t = 0; t < 3; t++) {
                Due.is("beats(" + t + ") in cycle " + x.cycle(), x.beats(t), due[i][t]);
            }
        }
        Due.is("doneCycle(0)", x.doneCycle(0), 11);
        Due.is("doneCycle(1)", x.doneCycle(1), 12);
        Due.is("doneCycle(2)", x.doneCycle(2), 9);
        Due.is("status(2)", x.status(2), IdInterconnect.ST_DECERR);
        Due.is("outstanding(1)", x.outstanding(1), 0);
    }

    private static void sameIdInOrder() {
        Due.part("promise 7, one id in order");
        IdInterconnect x = fresh();
        x.setLatency(0, 0, 9);
        x.issueRead(0, 1, 0, 1);
        x.issueRead(0, 1, 1, 1);
        x.issueRead(0, 2, 2, 1);
        x.issueRead(1, 1, 3, 1);
        x.step(20);
        Due.is("doneCycle(0)", x.doneCycle(0), 10);
        Due.is("doneCycle(1)", x.doneCycle(1), 11);
        Due.is("another id passes", x.doneCycle(2), 5);
        Due.is("another manager passes", x.doneCycle(3), 3);
        x = fresh();
        x.setLatency(0, 0, 9);
        for (int i = 0; i < 3; i++) {
            x.issueWrite(0, i / 2, i, 1);
            x.writeData(0, 50 + i);
        }
        x.issueRead(0, 0, 0, 1);
        x.step(20);
        Due.is("first write", x.doneCycle(0), 11);
        Due.is("second write of the id", x.doneCycle(1), 12);
        Due.is("a write of another id passes", x.doneCycle(2), 5);
        Due.is("a read of the id passes", x.doneCycle(3), 2);
        Due.is("memory(1)", x.memory(1), 51);
    }

    private static void readSeesSameCycleWrite() {
        Due.part("promise 7, a beat after the response");
        IdInterconnect x = fresh();
        x.issueWrite(1, 0, 4, 2);
        x.writeData(1, 60);
        x.writeData(1, 61);
        // Accepted in cycle 1, data in 2 and 3, response in 4.
        x.step(1);
        x.setLatency(0, 1, 2);
        x.issueRead(0, 0, 4, 2);
        x.step(3);
        Due.is("doneCycle(0)", x.doneCycle(0), 4);
        Due.is("beats(1)", x.beats(1), 1);
        Due.is("readData(1, 0)", x.readData(1, 0), 60);
    }

    private static void readSamplesBeatByBeat() {
        Due.part("promise 7, sampling");
        IdInterconnect x = fresh();
        x.issueRead(0, 0, 8, 4);
        x.issueWrite(1, 0, 8, 4);
        for (int i = 1; i <= 4; i++) {
            x.writeData(1, i);
        }
        // The write answers in cycle 6; the read gives beats in 2, 3, 7 and 8.
        x.step(3);
        x.setReady(0, true, false);
        x.step(3);
        Due.is("doneCycle(1)", x.doneCycle(1), 6);
        x.setReady(0, true, true);
        x.step(2);
        int[] due = {0, 0, 3, 4};
        for (int i = 0; i < 4; i++) {
            Due.is("readData(0, " + i + ")", x.readData(0, i), due[i]);
        }
    }

    private static void oneDataValuePerCycle() {
        Due.part("promise 7, write data");
        IdInterconnect x = fresh();
        x.issueWrite(0, 0, 0, 2);
        x.issueWrite(0, 1, 8, 1);
        x.step(2);
        Due.is("beats(0)", x.beats(0), 0);
        x.writeData(0, 1);
        x.step(3);
        Due.is("beats(0)", x.beats(0), 1);
        Due.is("beats(1) waits for the older write", x.beats(1), 0);
        x.writeData(0, 2);
        x.writeData(0, 3);
        x.step(1);
        Due.is("beats(0)", x.beats(0), 2);
        Due.is("beats(1)", x.beats(1), 0);
        Due.is("pendingData(0)", x.pendingData(0), 1);
        x.step(1);
        Due.is("status(0)", x.status(0), IdInterconnect.ST_OKAY);
        Due.is("beats(1)", x.beats(1), 1);
        x = new IdInterconnect(8, 1);
        x.setReady(1, false, false);
        x.issueRead(1, 0, 0, 1);
        x.step(1);
        x.issueWrite(0, 0, 0, 1);
        x.writeData(0, 4);
        x.step(5);
        Due.is("a QUEUED write takes no data", x.beats(1), 0);
        Due.is("pendingData(0)", x.pendingData(0), 1);
    }

    private static void priorityPerChannelAndSubordinate() {
        Due.part("promise 7, priority of each port");
        IdInterconnect x = fresh();
        x.issueRead(0, 0, 0, 1);
        x.step(3);
        // AR of subordinate 0 now prefers manager 1; AW of 0 and AR of 1 still prefer manager 0.
        for (int m = 0; m < 2; m++) {
            x.issueWrite(m, 0, 0, 1);
            x.issueRead(m, 1, 8, 1);
            x.issueRead(m, 2, 0, 1);
        }
        x.step(1);
        Due.is("AW at 0, manager 0", x.status(1), IdInterconnect.ST_ACTIVE);
        Due.is("AW at 0, manager 1", x.status(4), IdInterconnect.ST_QUEUED);
        Due.is("AR at 1, manager 0", x.status(2), IdInterconnect.ST_ACTIVE);
        Due.is("AR at 1, manager 1", x.status(5), IdInterconnect.ST_QUEUED);
        x = fresh();
        x.issueRead(0, 0, 0, 1);
        x.step(3);
        x.issueRead(0, 0, 0, 1);
        x.issueRead(1, 0, 0, 1);
        x.step(1);
        Due.is("AR at 0, manager 0", x.status(1), IdInterconnect.ST_QUEUED);
        Due.is("AR at 0, manager 1", x.status(2), IdInterconnect.ST_ACTIVE);
    }

    private static void loneWinnerMovesPriority() {
        Due.part("promise 7, a lone winner");
        IdInterconnect x = fresh();
        x.issueRead(1, 0, 0, 1);
        x.step(3);
        x.issueRead(1, 0, 0, 1);
        x.issueRead(0, 0, 0, 1);
        x.step(1);
        Due.is("manager 0 goes first", x.status(2), IdInterconnect.ST_ACTIVE);
        Due.is("manager 1 waits", x.status(1), IdInterconnect.ST_QUEUED);
        x.step(3);
        // Now manager 0 is preferred; a lone win of manager 0, then idle cycles, leave manager 1 preferred.
        x.issueRead(0, 0, 0, 1);
        x.step(9);
        x.issueRead(0, 0, 0, 1);
        x.issueRead(1, 0, 0, 1);
        x.step(1);
        Due.is("manager 1 goes first", x.status(5), IdInterconnect.ST_ACTIVE);
        Due.is("manager 0 waits", x.status(4), IdInterconnect.ST_QUEUED);
    }

    private static void addressChannelOrder() {
        Due.part("promise 7, AW before AR");
        IdInterconnect x = new IdInterconnect(8, 1);
        x.issueRead(0, 0, 8, 1);
        x.issueWrite(1, 0, 8, 1);
        x.step(1);
        Due.is("read", x.status(0), IdInterconnect.ST_QUEUED);
        Due.is("write", x.status(1), IdInterconnect.ST_ACTIVE);
        Due.is("subLoad(1)", x.subLoad(1), 1);
        x = new IdInterconnect(1, 4);
        x.issueRead(0, 0, 8, 1);
        x.issueWrite(0, 0, 8, 1);
        x.issueRead(1, 0, 8, 1);
        x.step(1);
        Due.is("read", x.status(0), IdInterconnect.ST_QUEUED);
        Due.is("write", x.status(1), IdInterconnect.ST_ACTIVE);
        Due.is("the other manager", x.status(2), IdInterconnect.ST_ACTIVE);
    }

    private static void subordinateOrderUnderLimit() {
        Due.part("promise 7, subordinates in order");
        for (int s = 1; s < 4; s++) {
            IdInterconnect x = new IdInterconnect(1, 4);
            x.issueWrite(0, 0, 8 * s, 1);
            x.issueRead(0, 0, 8 * s - 8, 1);
            x.step(1);
            Due.is("the higher one waits", x.status(0), IdInterconnect.ST_QUEUED);
            Due.is("the lower one goes", x.status(1), IdInterconnect.ST_ACTIVE);
        }
    }

    private static void severalHeadsInOneCycle() {
        Due.part("promise 7, several heads in one cycle");
        IdInterconnect x = fresh();
        for (int i = 0; i < 4; i++) {
            x.issueRead(0, i, 8 * i, 1);
            x.issueRead(1, i, 24 - 8 * i, 1);
        }
        x.step(1);
        Due.is("rising subordinates go at once", x.outstanding(0), 4);
        Due.is("falling subordinates go one by one", x.outstanding(1), 0);
        x.step(1);
        Due.is("falling subordinates go one by one", x.outstanding(1), 1);
    }

    private static void sameIdElsewhereBlocks() {
        Due.part("promise 7, one id at two subordinates");
        for (int kind = 0; kind < 2; kind++) {
            boolean write = kind == 0;
            IdInterconnect x = fresh();
            x.setReady(0, false, false);
            issue(x, write, 0, 2, 0, 1);
            issue(x, write, 0, 2, 1, 1);
            issue(x, write, 0, 2, 8, 1);
            issue(x, !write, 0, 2, 8, 1);
            issue(x, write, 1, 2, 8, 1);
            x.writeData(0, 1);
            x.writeData(0, 2);
            x.step(5);
            Due.is("the same subordinate", x.status(1), IdInterconnect.ST_ACTIVE);
            Due.is("another subordinate", x.status(2), IdInterconnect.ST_QUEUED);
            Due.is("the other kind", x.status(3), IdInterconnect.ST_ACTIVE);
            Due.is("the other manager", x.status(4) == IdInterconnect.ST_QUEUED ? 1 : 0, 0);
            x.setReady(0, write, !write);
            x.step(1);
            Due.is("one is still ACTIVE", x.status(2), IdInterconnect.ST_QUEUED);
            x.step(1);
            Due.is("accepted as the last one is DONE", x.status(2), IdInterconnect.ST_ACTIVE);
            Due.is("doneCycle(1)", x.doneCycle(1), 7);
        }
        IdInterconnect y = fresh();
        y.setReady(0, false, false);
        y.issueRead(0, 2, 0, 1);
        y.issueRead(0, 1, 8, 1);
        y.step(1);
        Due.is("another id", y.status(1), IdInterconnect.ST_ACTIVE);
        y.issueRead(0, 1, 24, 1);
        y.step(3);
        Due.is("the error subordinate counts too", y.status(2), IdInterconnect.ST_QUEUED);
    }

    private static void doneFreesInSameCycle() {
        Due.part("promise 7, room in the same cycle");
        IdInterconnect x = new IdInterconnect(1, 1);
        x.issueRead(0, 0, 0, 1);
        x.issueRead(0, 1, 1, 1);
        x.step(2);
        Due.is("status(0)", x.status(0), IdInterconnect.ST_OKAY);
        Due.is("status(1)", x.status(1), IdInterconnect.ST_ACTIVE);
        Due.is("beats(1) not in the cycle of acceptance", x.beats(1), 0);
        Due.is("outstanding(0)", x.outstanding(0), 1);
        Due.is("subLoad(0)", x.subLoad(0), 1);
        x.step(1);
        Due.is("doneCycle(1)", x.doneCycle(1), 3);
    }

    // Promises 8 to 15

    private static void statusStates() {
        Due.part("promise 9");
        IdInterconnect x = fresh();
        x.issueRead(0, 0, 0, 1);
        x.issueRead(1, 0, 24, 1);
        Due.is("QUEUED", x.status(0), IdInterconnect.ST_QUEUED);
        x.step(1);
        Due.is("ACTIVE", x.status(1), IdInterconnect.ST_ACTIVE);
        x.step(1);
        Due.is("OKAY", x.status(0), IdInterconnect.ST_OKAY);
        Due.is("DECERR", x.status(1), IdInterconnect.ST_DECERR);
        for (int t : new int[] {-1, -32, -31, 2, 32, 33, 64, LOW, HIGH}) {
            Due.is("status(" + t + ")", x.status(t), IdInterconnect.ST_NONE);
        }
        for (int t = 2; t < 40; t++) {
            x.issueRead(0, 0, 0, 1);
            x.step(2);
        }
        for (int t = -1; t < 8; t++) {
            Due.is("status(" + t + ") of 40", x.status(t), IdInterconnect.ST_NONE);
        }
        for (int t = 8; t < 40; t++) {
            Due.is("status(" + t + ") of 40", x.status(t), IdInterconnect.ST_OKAY);
        }
        Due.is("status(40) of 40", x.status(40), IdInterconnect.ST_NONE);
    }

    private static void beatsOfBothKinds() {
        Due.part("promise 10");
        IdInterconnect x = fresh();
        x.issueWrite(0, 0, 0, 3);
        x.issueRead(1, 0, 24, 3);
        for (int i = 0; i < 3; i++) {
            x.writeData(0, i);
        }
        int[] due = {0, 0, 1, 2, 3, 3};
        for (int i = 0; i < due.length; i++) {
            Due.is("beats(0) in cycle " + i, x.beats(0), due[i]);
            Due.is("beats(1) in cycle " + i, x.beats(1), due[i]);
            x.step(1);
        }
        for (int t : new int[] {-1, 2, 32, LOW, HIGH}) {
            Due.is("beats(" + t + ")", x.beats(t), -1);
        }
    }

    private static void readDataEdges() {
        Due.part("promise 11");
        IdInterconnect x = fresh();
        x.issueWrite(0, 0, 20, 4);
        x.issueWrite(0, 0, 24, 4);
        for (int i = 0; i < 8; i++) {
            x.writeData(0, -5 - i);
        }
        x.step(20);
        x.issueRead(0, 0, 20, 3);
        x.issueRead(1, 0, 24, 4);
        x.step(2);
        Due.is("readData(2, 0)", x.readData(2, 0), -5);
        Due.is("a beat not given yet", x.readData(2, 1), 0);
        x.step(10);
        for (int i = 0; i < 4; i++) {
            Due.is("of a write", x.readData(0, i), 0);
            Due.is("of an error write", x.readData(1, i), 0);
            Due.is("of a read", x.readData(2, i), i < 3 ? -5 - i : 0);
            Due.is("of an error read", x.readData(3, i), 0);
        }
        for (int i : new int[] {-1, 3, 4, LOW, HIGH}) {
            Due.is("readData(2, " + i + ")", x.readData(2, i), 0);
        }
        for (int t : new int[] {-1, -30, 4, 34, LOW, HIGH}) {
            Due.is("readData(" + t + ", 0)", x.readData(t, 0), 0);
        }
        // A beat keeps its sample when memory changes later.
        x.issueWrite(1, 0, 20, 1);
        x.writeData(1, 8);
        x.step(5);
        Due.is("memory(20)", x.memory(20), 8);
        Due.is("readData(2, 0)", x.readData(2, 0), -5);
        for (int i = 0; i < 30; i++) {
            x.issueRead(0, 0, 0, 1);
            x.step(2);
        }
        Due.is("readData(2, 0) when no longer VALID", x.readData(2, 0), 0);
    }

    private static void doneNumbers() {
        Due.part("promise 12");
        IdInterconnect x = fresh();
        x.issueRead(1, 0, 24, 2);
        x.issueRead(0, 0, 16, 2);
        x.issueWrite(1, 0, 8, 1);
        x.issueWrite(0, 0, 0, 1);
        x.writeData(0, 1);
        x.writeData(1, 1);
        for (int i = 0; i < 3; i++) {
            for (int t = -1; t <= 4; t++) {
                Due.is("doneOrder(" + t + ")", x.doneOrder(t), -1);
                Due.is("doneCycle(" + t + ")", x.doneCycle(t), -1);
            }
            x.step(1);
        }
        for (int t = 0; t < 4; t++) {
            Due.is("doneOrder(" + t + ")", x.doneOrder(t), 3 - t);
            Due.is("doneCycle(" + t + ")", x.doneCycle(t), 3);
        }
        for (int t : new int[] {-1, -29, 4, 32, LOW, HIGH}) {
            Due.is("doneOrder(" + t + ")", x.doneOrder(t), -1);
            Due.is("doneCycle(" + t + ")", x.doneCycle(t), -1);
        }
        x.issueRead(0, 0, 0, 1);
        x.step(2);
        Due.is("doneOrder(4)", x.doneOrder(4), 4);
        Due.is("doneCycle(4)", x.doneCycle(4), 5);
    }

    private static void loads() {
        Due.part("promise 13");
        IdInterconnect x = fresh();
        for (int m : NOT_MANAGERS) {
            Due.is("outstanding(" + m + ")", x.outstanding(m), -1);
        }
        for (int s : new int[] {-1, 4, LOW, HIGH}) {
            Due.is("subLoad(" + s + ")", x.subLoad(s), -1);
        }
        x.issueRead(0, 0, 0, 1);
        x.issueRead(0, 3, 31, 1);
        x.issueWrite(0, 0, 24, 1);
        x.issueWrite(1, 0, 16, 1);
        Due.is("QUEUED does not count", x.outstanding(0), 0);
        x.step(1);
        Due.is("outstanding(0)", x.outstanding(0), 3);
        Due.is("outstanding(1)", x.outstanding(1), 1);
        int[] due = {1, 0, 1, 2};
        for (int s = 0; s < 4; s++) {
            Due.is("subLoad(" + s + ")", x.subLoad(s), due[s]);
        }
        x.step(5);
        Due.is("outstanding(0)", x.outstanding(0), 1);
        Due.is("subLoad(0)", x.subLoad(0), 0);
        Due.is("subLoad(3)", x.subLoad(3), 1);
        x.writeData(0, 1);
        x.writeData(1, 1);
        x.step(5);
        Due.is("outstanding(0)", x.outstanding(0), 0);
        Due.is("outstanding(1)", x.outstanding(1), 0);
        Due.is("subLoad(2)", x.subLoad(2), 0);
        Due.is("subLoad(3)", x.subLoad(3), 0);
    }

    private static void pendingCounts() {
        Due.part("promise 14");
        IdInterconnect x = fresh();
        for (int m : NOT_MANAGERS) {
            Due.is("pendingData(" + m + ")", x.pendingData(m), -1);
        }
        x.writeData(0, 1);
        x.writeData(0, 2);
        x.writeData(1, 3);
        x.step(5);
        Due.is("pendingData(0)", x.pendingData(0), 2);
        Due.is("pendingData(1)", x.pendingData(1), 1);
        x.issueWrite(0, 0, 0, 4);
        x.step(9);
        Due.is("pendingData(0)", x.pendingData(0), 0);
        Due.is("pendingData(1)", x.pendingData(1), 1);
    }
}
