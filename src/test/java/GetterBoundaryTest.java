/** Promises 8 to 15: what each getter answers at the last argument it knows and at the first it doesn't. */
public final class GetterBoundaryTest {
    private static final int LOW = Integer.MIN_VALUE;
    private static final int HIGH = Integer.MAX_VALUE;
    private static final int[] NOT_MANAGERS = {LOW, -2, -1, 2, 3, HIGH};
    private static final boolean[] KINDS = {false, true};

    private GetterBoundaryTest() {
    }

    public static void main(String[] args) {
        cycleGrowsByN();
        cycleOfRefusedStep();
        statusNegative();
        statusNotGivenYet();
        statusTooOld();
        statusOfEachState();
        beatsNotValid();
        beatsOfWrite();
        beatsOfRead();
        readDataNotValid();
        readDataOfWrite();
        readDataTooFar();
        readDataOfErrorRead();
        readDataKeepsSample();
        readDataInUsedSlot();
        doneNotValid();
        doneNotDone();
        doneInUsedSlot();
        doneWithinOneCycle();
        outstandingManagers();
        subLoadSubordinates();
        countsFromEmptyToFull();
        pendingDataManagers();
        pendingDataFromEmptyToFull();
        memoryAddresses();
        Due.end();
    }

    // Promise 8

    private static void cycleGrowsByN() {
        Due.sentence("promise 8", "growing by exactly n with each call step(n) that answers true");
        Watched x = new Watched();
        int due = 0;
        for (int n = 1; n <= 64; n++) {
            Due.yes("step(" + n + ")", x.step(n));
            due += n;
            Due.is("cycle()", x.bus.cycle(), due);
        }
        x.issueRead(0, 0, 0, 1);
        x.issueWrite(0, 0, 0, 1);
        x.writeData(0, 1);
        x.setLatency(0, 0, 2);
        x.setReady(0, true, false);
        Due.is("cycle() after other calls", x.bus.cycle(), due);
    }

    private static void cycleOfRefusedStep() {
        Due.sentence("promise 8", "each call step(n) that answers true", "not one that answers false");
        Watched x = new Watched();
        for (int n : new int[] {LOW, -1, 0, 65, HIGH}) {
            Due.no("step(" + n + ")", x.step(n));
            Due.is("cycle()", x.bus.cycle(), 0);
        }
        x.step(5);
        for (int n : new int[] {LOW, -1, 0, 65, HIGH}) {
            Due.no("step(" + n + ")", x.step(n));
            Due.is("cycle()", x.bus.cycle(), 5);
        }
    }

    // Promise 9

    private static void statusNegative() {
        Due.sentence("promise 9", "ST_NONE if t is not VALID (any negative t");
        Watched[] scenes = {Scenes.fresh(), Scenes.full(), Scenes.worn()};
        for (Watched x : scenes) {
            for (int t : new int[] {LOW, LOW + 1, -64, -33, -32, -31, -2, -1}) {
                x.isNone(t);
            }
        }
    }

    private static void statusNotGivenYet() {
        Due.sentence("promise 9", "any t >= T");
        Watched x = new Watched();
        for (int given = 0; given < 70; given++) {
            for (int t : new int[] {given, given + 1, given + 31, given + 32, given + 33, HIGH - 1, HIGH}) {
                x.isNone(t);
            }
            x.quick(false, 0, 0, 0);
            x.isOkay(given);
        }
    }

    private static void statusTooOld() {
        Due.sentence("promise 9", "any t < T-32");
        Watched x = new Watched();
        for (int given = 1; given < 100; given++) {
            x.quick(false, 0, 0, 0);
            for (int t = 0; t < given - 32; t++) {
                x.isNone(t);
            }
            x.isOkay(Math.max(0, given - 32));
        }
    }

    private static void statusOfEachState() {
        Due.sentence("promise 9", "Otherwise it answers ST_QUEUED, ST_ACTIVE, ST_OKAY or ST_DECERR");
        for (boolean write : KINDS) {
            for (int a = 0; a < 32; a++) {
                Watched x = new Watched();
                x.issue(write, 0, 0, a, 1);
                x.isQueued(0);
                x.step(1);
                x.isActive(0);
                x.writeData(0, 1);
                x.step(2);
                x.isDoneAt(0, a / 8);
            }
        }
    }

    // Promise 10

    private static void beatsNotValid() {
        Due.sentence("promise 10", "-1 if t is not VALID");
        Watched x = new Watched();
        for (int given = 0; given < 70; given++) {
            for (int t : new int[] {LOW, -1, given, given + 32, HIGH, given - 33}) {
                Due.is("beats(" + t + ") of " + given, x.bus.beats(t), -1);
            }
            x.quick(true, 0, 0, 0);
            Due.is("beats(" + given + ")", x.bus.beats(given), 1);
            Due.is("the oldest VALID one", x.bus.beats(Math.max(0, given - 31)), 1);
        }
    }

    private static void beatsOfWrite() {
        Due.sentence("promise 10", "the number of data values the write has received (0 while QUEUED, at most len)");
        for (int s = 0; s < 4; s++) {
            for (int len = 1; len <= 4; len++) {
                Watched x = new Watched();
                x.issueWrite(0, 0, 8 * s, len);
                for (int i = 0; i < 8; i++) {
                    x.writeData(0, i);
                }
                Due.is("QUEUED", x.bus.beats(0), 0);
                x.step(1);
                for (int i = 0; i < 8; i++) {
                    Due.is("beats(0) after " + i, x.bus.beats(0), Math.min(i, len));
                    x.step(1);
                }
            }
        }
    }

    private static void beatsOfRead() {
        Due.sentence("promise 10", "for a read it answers the number of beats it has been given (0 while QUEUED, at most len)");
        for (int s = 0; s < 4; s++) {
            for (int len = 1; len <= 4; len++) {
                Watched x = new Watched();
                x.issueRead(0, 0, 8 * s, len);
                Due.is("QUEUED", x.bus.beats(0), 0);
                x.step(1);
                for (int i = 0; i < 8; i++) {
                    Due.is("beats(0) after " + i, x.bus.beats(0), Math.min(i, len));
                    x.step(1);
                }
            }
        }
    }

    // Promise 11

    /** Words 0..7 hold 100..107, written with tickets 0 and 1. */
    private static Watched written() {
        Watched x = new Watched();
        for (int i = 0; i < 8; i++) {
            x.writeData(0, 100 + i);
        }
        x.issueWrite(0, 0, 0, 4);
        x.issueWrite(0, 0, 4, 4);
        x.step(12);
        return x;
    }

    private static void readDataNotValid() {
        Due.sentence("promise 11", "It answers 0 if t is not VALID");
        Watched x = written();
        for (int given = 2; given < 70; given++) {
            for (int t : new int[] {LOW, -32, -1, given, given + 1, given + 32, HIGH}) {
                Due.is("readData(" + t + ", 0) of " + given, x.bus.readData(t, 0), 0);
            }
            for (int t = 0; t < given - 32; t++) {
                Due.is("readData(" + t + ", 0) of " + given, x.bus.readData(t, 0), 0);
            }
            x.quick(false, 1, 0, 5);
            int oldest = Math.max(2, given - 31);
            Due.is("the oldest VALID one", x.bus.readData(oldest, 0), 105);
            Due.is("the newest VALID one", x.bus.readData(given, 0), 105);
        }
    }

    private static void readDataOfWrite() {
        Due.sentence("promise 11", "0 if .. t is a write");
        Watched x = written();
        for (int i = 0; i < 4; i++) {
            Due.is("DONE", x.bus.readData(0, i), 0);
            Due.is("DONE", x.bus.readData(1, i), 0);
        }
        int t = x.issueWrite(1, 0, 8, 3);
        x.writeData(1, 9);
        x.writeData(1, 9);
        for (int c = 0; c < 5; c++) {
            for (int i = -1; i <= 4; i++) {
                Due.is("under way", x.bus.readData(t, i), 0);
            }
            x.step(1);
        }
        Due.is("values received", x.bus.beats(t), 2);
    }

    private static void readDataTooFar() {
        Due.sentence("promise 11", "0 if .. i is not in 0 .. beats(t)-1");
        for (int len = 1; len <= 4; len++) {
            Watched x = written();
            int t = x.issueRead(0, 0, 1, len);
            for (int c = 0; c < 7; c++) {
                int beats = x.bus.beats(t);
                for (int i : new int[] {LOW, -4, -1, 0, 1, 2, 3, 4, 5, HIGH}) {
                    Due.is("readData(t, " + i + ") of " + beats, x.bus.readData(t, i), i >= 0 && i < beats ? 101 + i : 0);
                }
                x.step(1);
            }
            Due.is("beats", x.bus.beats(t), len);
        }
    }

    private static void readDataOfErrorRead() {
        Due.sentence("promise 11", "Beats of a DECERR read are 0");
        Watched x = written();
        for (int i = 0; i < 34; i++) {
            x.issueRead(0, 0, 0, 4);
            x.step(5);
        }
        for (int i = 0; i < 34; i++) {
            int t = x.issueRead(0, 0, 24 + i % 5, 4);
            x.step(5);
            x.isDecerr(t);
            for (int beat = 0; beat < 4; beat++) {
                Due.is("beat " + beat, x.bus.readData(t, beat), 0);
            }
        }
    }

    private static void readDataKeepsSample() {
        Due.sentence("promise 11", "as sampled when that beat was given");
        Watched x = written();
        int t = x.issueRead(1, 0, 3, 2);
        x.step(2);
        x.setReady(1, true, false);
        x.issueWrite(0, 0, 3, 2);
        x.writeData(0, 7);
        x.writeData(0, 8);
        x.step(4);
        Due.is("memory(3)", x.bus.memory(3), 7);
        Due.is("memory(4)", x.bus.memory(4), 8);
        Due.is("before the write", x.bus.readData(t, 0), 103);
        x.setReady(1, true, true);
        x.step(1);
        Due.is("before the write", x.bus.readData(t, 0), 103);
        Due.is("after the write", x.bus.readData(t, 1), 8);
        x.quick(true, 0, 0, 4);
        Due.is("memory(4)", x.bus.memory(4), 7);
        Due.is("later writes do not matter", x.bus.readData(t, 1), 8);
    }

    private static void readDataInUsedSlot() {
        Due.sentence("promise 11", "i is not in 0 .. beats(t)-1", "also where an older ticket had more beats");
        Watched x = written();
        for (int i = 0; i < 32; i++) {
            x.issueRead(0, 0, 4, 4);
            x.step(5);
        }
        for (int i = 0; i < 32; i++) {
            int t = x.issueRead(0, 0, 0, 2);
            for (int c = 0; c < 4; c++) {
                for (int beat = 0; beat < 4; beat++) {
                    Due.is("beat " + beat, x.bus.readData(t, beat), beat < x.bus.beats(t) ? 100 + beat : 0);
                }
                x.step(1);
            }
        }
    }

    // Promise 12

    private static void doneNotValid() {
        Due.sentence("promise 12", "Each answers -1 if t is not VALID");
        Watched x = new Watched();
        for (int given = 0; given < 70; given++) {
            for (int t : new int[] {LOW, -32, -1, given, given + 1, given + 32, HIGH, given - 33}) {
                Due.is("doneOrder(" + t + ") of " + given, x.bus.doneOrder(t), -1);
                Due.is("doneCycle(" + t + ") of " + given, x.bus.doneCycle(t), -1);
            }
            x.quick(given % 2 == 1, 0, 0, 0);
            int oldest = Math.max(0, given - 31);
            for (int t = oldest; t <= given; t++) {
                Due.is("doneOrder(" + t + ")", x.bus.doneOrder(t), t);
                Due.is("doneCycle(" + t + ")", x.bus.doneCycle(t), 3 * t + 2 + t % 2);
            }
        }
    }

    private static void doneNotDone() {
        Due.sentence("promise 12", "or its transaction is not DONE");
        for (boolean write : KINDS) {
            Watched x = new Watched();
            x.issue(write, 0, 0, 0, 2);
            x.writeData(0, 1);
            x.writeData(0, 2);
            int done = write ? 4 : 3;
            for (int c = 0; c < done; c++) {
                Due.is("doneOrder(0) in cycle " + c, x.bus.doneOrder(0), -1);
                Due.is("doneCycle(0) in cycle " + c, x.bus.doneCycle(0), -1);
                x.step(1);
            }
            for (int c = done; c < done + 5; c++) {
                Due.is("doneOrder(0) in cycle " + c, x.bus.doneOrder(0), 0);
                Due.is("doneCycle(0) in cycle " + c, x.bus.doneCycle(0), done);
                x.step(1);
            }
        }
    }

    private static void doneInUsedSlot() {
        Due.sentence("promise 12", "or its transaction is not DONE", "also where an older ticket was");
        Watched x = new Watched();
        x.giveTickets(32, 0, 0, 0);
        for (int t = 32; t < 70; t++) {
            x.issueRead(0, 0, 0, 1);
            for (int c = 0; c < 2; c++) {
                Due.is("doneOrder(" + t + ")", x.bus.doneOrder(t), -1);
                Due.is("doneCycle(" + t + ")", x.bus.doneCycle(t), -1);
                x.step(1);
            }
            Due.is("doneOrder(" + t + ")", x.bus.doneOrder(t), t);
            Due.is("doneCycle(" + t + ")", x.bus.doneCycle(t), x.bus.cycle());
        }
    }

    private static void doneWithinOneCycle() {
        Due.sentence("promise 12", "step 2 for manager 0, step 2 for manager 1, step 3 for manager 0, step 3 for manager 1");
        for (int set = 1; set < 16; set++) {
            Watched x = new Watched();
            x.hold();
            int[] tickets = {-1, -1, -1, -1};
            // The last of the four comes first, so that the order of the tickets is not the one that is due.
            for (int i = 3; i >= 0; i--) {
                if ((set >> i & 1) != 0) {
                    tickets[i] = x.issue(i < 2, i % 2, 0, 8 * (i % 2), 1);
                }
            }
            x.writeData(0, 1);
            x.writeData(1, 1);
            x.step(9);
            x.release();
            x.step(1);
            int due = 0;
            for (int t : tickets) {
                Due.is("doneOrder(" + t + ") of set " + set, x.bus.doneOrder(t), t < 0 ? -1 : due);
                Due.is("doneCycle(" + t + ") of set " + set, x.bus.doneCycle(t), t < 0 ? -1 : 10);
                due += t < 0 ? 0 : 1;
            }
        }
    }

    // Promise 13

    private static void outstandingManagers() {
        Due.sentence("promise 13", "OUT(m), or -1 if m is not in 0..1");
        Watched[] scenes = {Scenes.fresh(), Scenes.full(), Scenes.busy()};
        for (Watched x : scenes) {
            for (int m : NOT_MANAGERS) {
                Due.is("outstanding(" + m + ")", x.bus.outstanding(m), -1);
            }
            Due.yes("outstanding(0)", x.bus.outstanding(0) >= 0);
            Due.yes("outstanding(1)", x.bus.outstanding(1) >= 0);
        }
    }

    private static void subLoadSubordinates() {
        Due.sentence("promise 13", "LOAD(s), or -1 if s is not in 0..3 (the error subordinate 3 is included)");
        Watched[] scenes = {Scenes.fresh(), Scenes.full(), Scenes.busy()};
        for (Watched x : scenes) {
            for (int s : new int[] {LOW, -2, -1, 4, 5, HIGH}) {
                Due.is("subLoad(" + s + ")", x.bus.subLoad(s), -1);
            }
            for (int s = 0; s <= 3; s++) {
                Due.yes("subLoad(" + s + ")", x.bus.subLoad(s) >= 0);
            }
        }
    }

    private static void countsFromEmptyToFull() {
        Due.sentence("promise 13", "answers OUT(m) .. answers LOAD(s)", "from none to the most and back");
        Watched x = new Watched();
        x.hold();
        for (int i = 0; i < 16; i++) {
            // Manager, kind and subordinate from the bits of i: each meets each.
            int m = i & 1;
            boolean write = (i & 2) != 0;
            int s = i >> 2;
            x.issue(write, m, s, 8 * s, 1);
            x.writeData(m, i);
            x.step(1);
            Due.is("outstanding(0)", x.bus.outstanding(0), (i + 2) / 2);
            Due.is("outstanding(1)", x.bus.outstanding(1), (i + 1) / 2);
            for (int at = 0; at < 4; at++) {
                Due.is("subLoad(" + at + ")", x.bus.subLoad(at), at < s ? 4 : at == s ? i % 4 + 1 : 0);
            }
        }
        x.release();
        for (int left = 3; left >= 0; left--) {
            x.step(1);
            for (int m = 0; m < 2; m++) {
                Due.is("outstanding(" + m + ")", x.bus.outstanding(m), 2 * left);
            }
            for (int s = 0; s < 4; s++) {
                Due.is("subLoad(" + s + ")", x.bus.subLoad(s), s < 4 - left ? 0 : 4);
            }
        }
    }

    // Promises 14 and 15

    private static void pendingDataManagers() {
        Due.sentence("promise 14", "or -1 if m is not in 0..1");
        Watched[] scenes = {Scenes.fresh(), Scenes.full(), Scenes.busy()};
        for (Watched x : scenes) {
            for (int m : NOT_MANAGERS) {
                Due.is("pendingData(" + m + ")", x.bus.pendingData(m), -1);
            }
            Due.yes("pendingData(0)", x.bus.pendingData(0) >= 0);
            Due.yes("pendingData(1)", x.bus.pendingData(1) >= 0);
        }
    }

    private static void pendingDataFromEmptyToFull() {
        Due.sentence("promise 14", "the number of values in m's W queue (0..8)");
        for (int m = 0; m < 2; m++) {
            Watched x = new Watched();
            for (int i = 0; i <= 10; i++) {
                Due.is("pendingData", x.bus.pendingData(m), Math.min(i, 8));
                Due.is("pendingData of the other", x.bus.pendingData(1 - m), 0);
                x.writeData(m, i);
            }
            x.issueWrite(m, 0, 0, 4);
            x.issueWrite(m, 0, 0, 4);
            x.step(1);
            for (int left = 8; left >= 0; left--) {
                Due.is("pendingData", x.bus.pendingData(m), left);
                x.step(1);
            }
            Due.is("pendingData", x.bus.pendingData(m), 0);
        }
    }

    private static void memoryAddresses() {
        Due.sentence("promise 15", "memory word a, or 0 if a is not in 0..23");
        Watched x = new Watched();
        for (int a = 0; a < 32; a++) {
            x.issueWrite(0, 0, a, 1);
            x.writeData(0, 1000 + a);
            x.step(3);
        }
        for (int a = -40; a <= 70; a++) {
            Due.is("memory(" + a + ")", x.bus.memory(a), a >= 0 && a <= 23 ? 1000 + a : 0);
        }
        for (int a : new int[] {LOW, LOW + 23, HIGH - 7, HIGH}) {
            Due.is("memory(" + a + ")", x.bus.memory(a), 0);
        }
    }
}
