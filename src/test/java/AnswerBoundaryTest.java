/** Promise 7, step and steps 1 to 4 of a cycle, with the pointers and completion numbers: a test for each boundary. */
public final class AnswerBoundaryTest {
    private static final int LOW = Integer.MIN_VALUE;
    private static final int HIGH = Integer.MAX_VALUE;
    private static final boolean[] KINDS = {false, true};

    private AnswerBoundaryTest() {
    }

    public static void main(String[] args) {
        stepTooSmall();
        stepTooLarge();
        stepRunsEachCycle();
        idleCycle();
        settingsStay();
        needsAllValues();
        needsReadyCycle();
        needsOlderOnesDone();
        ordersAcrossSlots();
        choosesFromPointer();
        pointerWrapsAround();
        pointerStaysWithoutEligible();
        pointerMovesWithEachBeat();
        oneAnswerPerManager();
        storesItsWordsOnly();
        storesAtResponseOnly();
        errorWriteStoresNothing();
        givesItsWords();
        errorReadGivesZeros();
        lastBeatEnds();
        managersInOrder();
        beatSeesThisCyclesResponse();
        leavesCountsAtOnce();
        valuesGoToOldest();
        valuesOfErrorWrites();
        valuesOneAtATime();
        emptyDataQueue();
        queuedWriteWaitsForData();
        noWriteTakesNoData();
        notInTheCycleOfAcceptance();
        completionNumbers();
        Due.end();
    }

    // step and the counter

    private static void stepTooSmall() {
        Due.sentence("promise 7", "answers false, changing nothing, if n is not in 1..MAX_STEPS", "too small");
        Watched x = Scenes.busy();
        Answers before = Answers.of(x.bus);
        for (int n : new int[] {LOW, -64, -1, 0}) {
            Due.no("step(" + n + ")", x.step(n));
        }
        Answers.of(x.bus).mustBe("refused steps", before);
        int c = x.bus.cycle();
        Due.yes("step(1)", x.step(1));
        Due.is("cycle()", x.bus.cycle(), c + 1);
    }

    private static void stepTooLarge() {
        Due.sentence("promise 7", "answers false, changing nothing, if n is not in 1..MAX_STEPS", "too large");
        Due.is("MAX_STEPS", IdInterconnect.MAX_STEPS, 64);
        Watched x = Scenes.busy();
        Answers before = Answers.of(x.bus);
        for (int n : new int[] {65, 66, 128, HIGH}) {
            Due.no("step(" + n + ")", x.step(n));
        }
        Answers.of(x.bus).mustBe("refused steps", before);
        int c = x.bus.cycle();
        Due.yes("step(64)", x.step(64));
        Due.is("cycle()", x.bus.cycle(), c + 64);
    }

    private static void stepRunsEachCycle() {
        Due.sentence("promise 7", "runs n cycles, one after another");
        for (int n : new int[] {1, 2, 3, 7, 63, 64}) {
            Watched x = Scenes.full();
            Watched y = Scenes.full();
            x.release();
            y.release();
            x.step(n);
            for (int i = 0; i < n; i++) {
                y.step(1);
            }
            Answers.of(x.bus).mustBe("step(" + n + ")", Answers.of(y.bus));
        }
    }

    private static void idleCycle() {
        Due.sentence("promise 7", "Everything not named above stays unchanged by a cycle");
        Watched[] scenes = {Scenes.fresh(), Scenes.full(), Scenes.worn()};
        for (Watched x : scenes) {
            int c = x.bus.cycle();
            Answers before = Answers.of(x.bus);
            for (int i = 1; i <= 9; i++) {
                x.step(1);
                Answers.of(x.bus).mustBe("an idle cycle", before, q -> q.name().equals("cycle()"));
                Due.is("cycle()", x.bus.cycle(), c + i);
            }
        }
    }

    private static void settingsStay() {
        Due.sentence("promise 7", "stays unchanged by a cycle: T, the scripts, the flags, and all tickets");
        Watched x = new Watched();
        for (int idx = 0; idx < 4; idx++) {
            x.setLatency(1, idx, 3 + idx);
        }
        x.setReady(0, false, true);
        x.setReady(1, true, false);
        x.step(64);
        x.isNone(0);
        Due.is("T", x.issueWrite(0, 0, 0, 1), 0);
        x.writeData(0, 1);
        x.issueRead(1, 0, 0, 1);
        x.step(64);
        x.isActive(0);
        x.isActive(1);
        Due.is("T", x.issueWrite(1, 0, 0, 1), 2);
        for (int k = 0; k < 8; k++) {
            Due.is("delay " + k, x.delayOfRead(0, 8), 3 + k % 4);
        }
    }

    // Who is eligible

    private static void needsAllValues() {
        Due.sentence("promise 7", "has received all len data values");
        for (int m = 0; m < 2; m++) {
            for (int len = 1; len <= 4; len++) {
                Watched x = new Watched();
                x.issueWrite(m, 0, 8, len);
                for (int i = 1; i < len; i++) {
                    x.writeData(m, i);
                }
                x.step(20);
                x.isActive(0);
                Due.is("beats(0)", x.bus.beats(0), len - 1);
                x.writeData(m, len);
                x.step(1);
                x.isActive(0);
                Due.is("beats(0)", x.bus.beats(0), len);
                x.step(1);
                x.isOkay(0);
            }
        }
    }

    private static void needsReadyCycle() {
        Due.sentence("promise 7", "has ready cycle <= C");
        for (int lat = 1; lat <= 15; lat++) {
            Watched x = new Watched();
            x.setLatency(0, 0, lat);
            x.setLatency(1, 0, lat);
            x.issueRead(0, 0, 0, 1);
            x.issueWrite(1, 0, 8, 1);
            x.writeData(1, 5);
            // The read is accepted in cycle 1; the write's only value comes in cycle 2.
            x.step(lat);
            x.isActive(0);
            x.isActive(1);
            x.step(1);
            x.isOkay(0);
            x.isActive(1);
            x.step(1);
            x.isOkay(1);
            Due.is("doneCycle(0)", x.bus.doneCycle(0), 1 + lat);
            Due.is("doneCycle(1)", x.bus.doneCycle(1), 2 + lat);
        }
    }

    private static void needsOlderOnesDone() {
        Due.sentence("promise 7", "no write of m with the same id and a smaller ticket is not DONE", "nor read");
        for (boolean write : KINDS) {
            for (int id = 0; id < 4; id++) {
                Watched x = new Watched();
                x.setLatency(0, 0, 15);
                x.issue(write, 0, id, 0, 1);
                x.issue(write, 0, id, 1, 1);
                x.issue(write, 0, (id + 1) % 4, 2, 1);
                for (int i = 0; i < 3; i++) {
                    x.writeData(0, 60 + i);
                }
                x.step(write ? 16 : 15);
                x.isActive(0);
                x.isActive(1);
                x.isOkay(2);
                x.step(1);
                x.isOkay(0);
                x.isActive(1);
                x.step(1);
                x.isOkay(1);
            }
        }
    }

    private static void ordersAcrossSlots() {
        Due.sentence("promise 7", "a smaller ticket", "also where the 32 VALID tickets wrap around");
        for (boolean write : KINDS) {
            for (int before = 28; before <= 36; before++) {
                Watched x = new Watched();
                x.giveTickets(before, 1, 0, 16);
                x.setLatency(0, 0, 9);
                for (int i = 0; i < 4; i++) {
                    x.issue(write, 0, 2, i, 1);
                    x.writeData(0, 40 + i);
                }
                x.step(20);
                for (int i = 0; i < 4; i++) {
                    Due.is("doneOrder(" + (before + i) + ")", x.bus.doneOrder(before + i), before + i);
                    Due.is("memory(" + i + ")", x.bus.memory(i), write ? 40 + i : 0);
                }
            }
        }
    }

    // Which one is chosen

    /** Bursts of m that are ready all at once, one for each id of the set, when the pointer stands at pointer. */
    private static Watched readyIds(boolean write, int m, int pointer, int set, boolean falling) {
        Watched x = new Watched();
        x.quick(write, m, (pointer + 3) % 4, 0);
        x.hold();
        for (int i = 0; i < 4; i++) {
            int id = (pointer + (falling ? 3 - i : i)) % 4;
            if ((set >> id & 1) != 0) {
                x.issue(write, m, id, 8 + id, 1);
                x.writeData(m, 80 + id);
            }
        }
        x.step(10);
        x.release();
        return x;
    }

    private static int ticketOf(int pointer, int set, boolean falling, int wanted) {
        int t = 1;
        for (int i = 0; i < 4; i++) {
            int id = (pointer + (falling ? 3 - i : i)) % 4;
            if (id == wanted) {
                return t;
            }
            t += set >> id & 1;
        }
        return -1;
    }

    private static void choosesFromPointer() {
        Due.sentence("promise 7", "The eligible id chosen is the first in the order bPtr, bPtr+1, .. (mod 4)");
        for (boolean write : KINDS) {
            for (int m = 0; m < 2; m++) {
                for (int pointer = 0; pointer < 4; pointer++) {
                    for (int set = 1; set < 16; set++) {
                        choosesInTurn(write, m, pointer, set, false);
                        choosesInTurn(write, m, pointer, set, true);
                    }
                }
            }
        }
    }

    private static void choosesInTurn(boolean write, int m, int pointer, int set, boolean falling) {
        Watched x = readyIds(write, m, pointer, set, falling);
        int due = 1;
        for (int i = 0; i < 4; i++) {
            int id = (pointer + i) % 4;
            if ((set >> id & 1) != 0) {
                x.step(1);
                int t = ticketOf(pointer, set, falling, id);
                Due.is("doneOrder of id " + id + " from " + pointer + " of set " + set, x.bus.doneOrder(t), due);
                Due.is("one left for each cycle", x.bus.outstanding(m), Integer.bitCount(set) - due);
                due++;
            }
        }
    }

    private static void pointerWrapsAround() {
        Due.sentence("promise 7", "Then bPtr := (id+1) % 4 .. Then rPtr := (id+1) % 4");
        for (boolean write : KINDS) {
            for (int m = 0; m < 2; m++) {
                for (int last = 0; last < 4; last++) {
                    int next = (last + 1) % 4;
                    Watched x = readyIds(write, m, next, 15, true);
                    x.step(1);
                    int t = ticketOf(next, 15, true, next);
                    Due.is("id " + next + " goes after id " + last, x.bus.doneOrder(t), 1);
                }
            }
        }
    }

    private static void pointerStaysWithoutEligible() {
        Due.sentence("promise 7", "If no write of m is eligible, nothing happens for m", "nor read");
        for (boolean write : KINDS) {
            for (int pointer = 0; pointer < 4; pointer++) {
                Watched x = new Watched();
                x.quick(write, 0, (pointer + 3) % 4, 0);
                x.step(5);
                // A cycle finds transactions that are not ready yet, and the other manager's moves on.
                for (int idx = 0; idx < 4; idx++) {
                    x.setLatency(1, idx, 9);
                }
                for (int id = 3; id >= 0; id--) {
                    x.issue(write, 0, id, 8, 1);
                    x.writeData(0, id);
                }
                x.quick(write, 1, 1, 16);
                x.step(3);
                x.hold();
                x.step(20);
                x.release();
                x.step(1);
                Due.is("id " + pointer + " goes first", x.bus.doneOrder(4 - pointer), 2);
            }
        }
    }

    private static void pointerMovesWithEachBeat() {
        Due.sentence("promise 7", "rPtr := (id+1) % 4, whether or not the read became DONE");
        for (int m = 0; m < 2; m++) {
            Watched x = new Watched();
            x.hold();
            for (int id = 3; id >= 0; id--) {
                x.issueRead(m, id, 8, 4);
            }
            x.step(9);
            x.release();
            for (int beat = 1; beat <= 4; beat++) {
                for (int id = 0; id < 4; id++) {
                    x.step(1);
                    Due.is("beats of id " + id, x.bus.beats(3 - id), beat);
                    Due.is("beats of the next id", x.bus.beats((2 - id + 4) % 4), id == 3 ? beat : beat - 1);
                    Due.is("DONE with the last beat", x.isDone(3 - id) ? 1 : 0, beat == 4 ? 1 : 0);
                }
            }
        }
    }

    private static void oneAnswerPerManager() {
        Due.sentence("promise 7", "Each manager gets at most one beat per cycle");
        Watched x = Scenes.full();
        x.release();
        for (int i = 0; i < 8; i++) {
            int[] before = {beatsGiven(x, 0), beatsGiven(x, 1)};
            x.step(1);
            for (int m = 0; m < 2; m++) {
                Due.is("beats of manager " + m + " in one cycle", beatsGiven(x, m) - before[m], 1);
            }
        }
    }

    private static int beatsGiven(Watched x, int m) {
        int sum = 0;
        for (int t = 0; t < 32; t++) {
            // Full issues a read and a write of manager 0, then of manager 1, in turn.
            boolean read = t % 2 == 0;
            sum += read && t / 2 % 2 == m ? x.bus.beats(t) : 0;
        }
        return sum;
    }

    // Memory

    private static void storesItsWordsOnly() {
        Due.sentence("promise 7", "memory word a+i := its data value i, for i = 0 .. len-1");
        for (int a = 0; a < 24; a++) {
            for (int len = 1; len <= 4 && a % 8 + len <= 8; len++) {
                Watched x = new Watched();
                x.issueWrite(0, 0, a, len);
                for (int i = 0; i < len; i++) {
                    x.writeData(0, 20 + i);
                }
                x.step(len + 2);
                x.isOkay(0);
                for (int i = 0; i < 24; i++) {
                    boolean inside = i >= a && i < a + len;
                    Due.is("memory(" + i + ") after (" + a + ", " + len + ")", x.bus.memory(i), inside ? 20 + i - a : 0);
                }
            }
        }
    }

    private static void storesAtResponseOnly() {
        Due.sentence("promise 15", "Memory words change only in step 2 of a cycle, when an OKAY write becomes DONE");
        for (int len = 1; len <= 4; len++) {
            Watched x = new Watched();
            x.setLatency(2, 0, 15);
            x.issueWrite(0, 0, 16, len);
            for (int i = 0; i < len; i++) {
                x.writeData(0, 20 + i);
            }
            x.setReady(0, false, true);
            for (int c = 0; c < 30; c++) {
                for (int a = 0; a < 24; a++) {
                    Due.is("memory(" + a + ")", x.bus.memory(a), 0);
                }
                x.step(1);
            }
            x.setReady(0, true, true);
            Due.is("memory(16)", x.bus.memory(16), 0);
            x.step(1);
            for (int i = 0; i < len; i++) {
                Due.is("memory(" + (16 + i) + ")", x.bus.memory(16 + i), 20 + i);
            }
        }
    }

    private static void errorWriteStoresNothing() {
        Due.sentence("promise 7", "a DECERR write changes no memory");
        for (int a = 24; a < 32; a++) {
            for (int len = 1; len <= 4 && a % 8 + len <= 8; len++) {
                Watched x = new Watched();
                x.issueWrite(1, 0, a, len);
                for (int i = 0; i < len; i++) {
                    x.writeData(1, 20 + i);
                }
                x.step(len + 2);
                x.isDecerr(0);
                for (int i = 0; i < 32; i++) {
                    Due.is("memory(" + i + ")", x.bus.memory(i), 0);
                }
            }
        }
    }

    private static void givesItsWords() {
        Due.sentence("promise 7", "Beat b's value := memory word a+b");
        Watched x = new Watched();
        for (int a = 0; a < 24; a += 4) {
            x.issueWrite(0, 0, a, 4);
            for (int i = 0; i < 4; i++) {
                x.writeData(0, 500 + a + i);
            }
            x.step(6);
        }
        for (int a = 0; a < 24; a++) {
            for (int len = 1; len <= 4 && a % 8 + len <= 8; len++) {
                int t = x.issueRead(1, a % 4, a, len);
                x.step(len + 1);
                x.isOkay(t);
                for (int i = 0; i < 4; i++) {
                    Due.is("beat " + i + " of (" + a + ", " + len + ")", x.bus.readData(t, i), i < len ? 500 + a + i : 0);
                }
            }
        }
    }

    private static void errorReadGivesZeros() {
        Due.sentence("promise 7", "or 0 if the read's subordinate is 3 (addr in 24..31)");
        Watched x = new Watched();
        for (int a = 16; a < 32; a += 4) {
            x.issueWrite(0, 0, a, 4);
            for (int i = 0; i < 4; i++) {
                x.writeData(0, 500 + a + i);
            }
            x.step(6);
        }
        // Reads of written words have been in all slots before the error reads come.
        for (int i = 0; i < 40; i++) {
            x.issueRead(1, 0, 20, 4);
            x.step(5);
        }
        for (int a = 24; a < 32; a++) {
            for (int len = 1; len <= 4 && a % 8 + len <= 8; len++) {
                int t = x.issueRead(1, a % 4, a, len);
                x.step(len + 1);
                x.isDecerr(t);
                Due.is("beats", x.bus.beats(t), len);
                for (int i = 0; i < 4; i++) {
                    Due.is("beat " + i + " of (" + a + ", " + len + ")", x.bus.readData(t, i), 0);
                }
            }
        }
    }

    private static void lastBeatEnds() {
        Due.sentence("promise 7", "If b reaches len, the read becomes DONE");
        for (int s = 0; s < 4; s++) {
            for (int len = 1; len <= 4; len++) {
                Watched x = new Watched();
                x.issueRead(0, 0, 8 * s, len);
                x.step(1);
                for (int beat = 1; beat <= len; beat++) {
                    x.isActive(0);
                    x.step(1);
                    Due.is("beats(0)", x.bus.beats(0), beat);
                }
                Due.is("status(0)", x.bus.status(0), s == 3 ? IdInterconnect.ST_DECERR : IdInterconnect.ST_OKAY);
                Due.is("doneCycle(0)", x.bus.doneCycle(0), 1 + len);
                x.step(5);
                Due.is("no beat more", x.bus.beats(0), len);
            }
        }
    }

    private static void managersInOrder() {
        Due.sentence("promise 7", "for m = 0 then m = 1");
        for (int first = 0; first < 2; first++) {
            Watched x = new Watched();
            x.hold();
            x.issueWrite(first, 0, 12, 1);
            x.issueWrite(1 - first, 0, 12, 1);
            x.writeData(0, 90);
            x.writeData(1, 91);
            x.step(6);
            x.release();
            x.step(1);
            Due.is("doneCycle(0)", x.bus.doneCycle(0), 7);
            Due.is("doneCycle(1)", x.bus.doneCycle(1), 7);
            Due.is("memory(12) has manager 1's value", x.bus.memory(12), 91);
        }
    }

    private static void beatSeesThisCyclesResponse() {
        Due.sentence("promise 7", "memory word a+b as it is now (after this cycle's step 2)");
        for (int reader = 0; reader < 2; reader++) {
            for (int writer = 0; writer < 2; writer++) {
                Watched x = new Watched();
                x.hold();
                x.issueWrite(writer, 0, 5, 1);
                x.writeData(writer, 66);
                x.issueRead(reader, 0, 5, 1);
                x.step(5);
                x.release();
                x.step(1);
                Due.is("doneCycle(0)", x.bus.doneCycle(0), 6);
                Due.is("doneCycle(1)", x.bus.doneCycle(1), 6);
                Due.is("readData(1, 0)", x.bus.readData(1, 0), 66);
            }
        }
    }

    private static void leavesCountsAtOnce() {
        Due.sentence("promise 7", "It then no longer counts in OUT(m) or LOAD(s), since it is no longer ACTIVE");
        for (boolean write : KINDS) {
            for (int m = 0; m < 2; m++) {
                for (int s = 0; s < 4; s++) {
                    Watched x = new Watched();
                    x.issue(write, m, 0, 8 * s, 2);
                    x.writeData(m, 1);
                    x.writeData(m, 2);
                    x.step(1);
                    for (int i = 0; i < 20 && !x.isDone(0); i++) {
                        Due.is("outstanding before", x.bus.outstanding(m), 1);
                        Due.is("subLoad before", x.bus.subLoad(s), 1);
                        x.step(1);
                    }
                    Due.is("doneCycle(0)", x.bus.doneCycle(0), write ? 4 : 3);
                    Due.is("outstanding after", x.bus.outstanding(m), 0);
                    Due.is("subLoad after", x.bus.subLoad(s), 0);
                }
            }
        }
    }

    // Write data

    private static void valuesGoToOldest() {
        Due.sentence("promise 7", "a later write of m never receives data ahead of w");
        for (int before = 0; before <= 33; before++) {
            Watched x = new Watched();
            x.giveTickets(before, 1, 0, 16);
            x.issueWrite(0, 1, 0, 3);
            x.issueWrite(0, 0, 8, 2);
            x.step(3);
            int[][] due = {{1, 0}, {2, 0}, {3, 0}, {3, 1}, {3, 2}, {3, 2}};
            for (int i = 0; i < due.length; i++) {
                x.writeData(0, 70 + i);
                x.step(1);
                Due.is("beats of the older", x.bus.beats(before), due[i][0]);
                Due.is("beats of the later", x.bus.beats(before + 1), due[i][1]);
            }
            Due.is("the sixth value stays", x.bus.pendingData(0), 1);
            Due.is("memory(2)", x.bus.memory(2), 72);
            Due.is("memory(8)", x.bus.memory(8), 73);
        }
    }

    private static void valuesOfErrorWrites() {
        Due.sentence("promise 3", "DECERR writes (those with addr in 24..31) consume data values too");
        for (int addr = 24; addr < 32; addr++) {
            for (int len = 1; len <= 4 && addr % 8 + len <= 8; len++) {
                Watched x = new Watched();
                x.issueWrite(0, 0, addr, len);
                x.issueWrite(0, 1, 0, 1);
                for (int i = 0; i <= len; i++) {
                    x.writeData(0, 30 + i);
                }
                x.step(10);
                Due.is("beats(0)", x.bus.beats(0), len);
                Due.is("memory(0)", x.bus.memory(0), 30 + len);
                Due.is("pendingData(0)", x.bus.pendingData(0), 0);
            }
        }
    }

    private static void valuesOneAtATime() {
        Due.sentence("promise 7", "the oldest W value leaves the queue and becomes w's next data value");
        for (int m = 0; m < 2; m++) {
            Watched x = new Watched();
            for (int i = 0; i < 8; i++) {
                x.writeData(m, i);
                x.writeData(1 - m, 10 + i);
            }
            x.issueWrite(m, 0, 0, 4);
            x.issueWrite(m, 1, 4, 4);
            x.step(1);
            for (int moved = 1; moved <= 8; moved++) {
                x.step(1);
                Due.is("pendingData", x.bus.pendingData(m), 8 - moved);
                Due.is("values received", x.bus.beats(0) + x.bus.beats(1), moved);
                Due.is("pendingData of the other", x.bus.pendingData(1 - m), 8);
            }
        }
    }

    private static void emptyDataQueue() {
        Due.sentence("promise 7", "the W queue is empty, nothing happens for m");
        for (int m = 0; m < 2; m++) {
            Watched x = new Watched();
            x.issueWrite(m, 0, 0, 2);
            // The other manager's values are not this one's.
            x.writeData(1 - m, 4);
            x.step(9);
            Due.is("beats(0)", x.bus.beats(0), 0);
            Due.is("pendingData", x.bus.pendingData(m), 0);
            Due.is("pendingData of the other", x.bus.pendingData(1 - m), 1);
            x.writeData(m, 5);
            x.step(9);
            Due.is("beats(0)", x.bus.beats(0), 1);
            Due.is("pendingData", x.bus.pendingData(m), 0);
        }
    }

    private static void queuedWriteWaitsForData() {
        Due.sentence("promise 7", "w is still QUEUED .. nothing happens for m");
        Watched x = Scenes.ticketZero(IdInterconnect.ST_QUEUED, true);
        x.writeData(1, 9);
        x.step(9);
        x.isQueued(0);
        Due.is("beats(0)", x.bus.beats(0), 0);
        Due.is("pendingData(1)", x.bus.pendingData(1), 1);
        // A value for the write that stands in the way lets both go on.
        x.writeData(0, 8);
        x.step(2);
        x.isActive(0);
        Due.is("beats(0)", x.bus.beats(0), 0);
        x.step(1);
        Due.is("beats(0)", x.bus.beats(0), 1);
        Due.is("pendingData(1)", x.bus.pendingData(1), 0);
    }

    private static void noWriteTakesNoData() {
        Due.sentence("promise 7", "If w does not exist .. nothing happens for m");
        for (int m = 0; m < 2; m++) {
            Watched x = new Watched();
            x.writeData(m, 1);
            x.issueRead(m, 0, 0, 4);
            x.step(9);
            Due.is("only a read", x.bus.pendingData(m), 1);
            x.issueWrite(m, 0, 0, 1);
            x.step(2);
            Due.is("a write has come", x.bus.pendingData(m), 0);
            x.writeData(m, 2);
            x.step(9);
            Due.is("the write has all its values", x.bus.pendingData(m), 1);
            Due.is("beats(1)", x.bus.beats(1), 1);
            Due.is("memory(0)", x.bus.memory(0), 1);
        }
    }

    private static void notInTheCycleOfAcceptance() {
        Due.sentence("promise 7", "A transaction accepted in a cycle can not give a response or beat in that same cycle");
        for (int s = 0; s < 4; s++) {
            Watched x = new Watched();
            x.writeData(0, 1);
            x.issueWrite(0, 0, 8 * s, 1);
            x.issueRead(0, 0, 8 * s, 1);
            x.step(1);
            x.isActive(0);
            x.isActive(1);
            Due.is("beats(0)", x.bus.beats(0), 0);
            Due.is("beats(1)", x.bus.beats(1), 0);
            Due.is("pendingData(0)", x.bus.pendingData(0), 1);
            x.step(1);
            Due.is("beats(0)", x.bus.beats(0), 1);
            Due.is("beats(1)", x.bus.beats(1), 1);
        }
    }

    private static void completionNumbers() {
        Due.sentence("terms", "completion numbers 0, 1, 2, .. over all transactions of both managers and both kinds");
        Watched x = Scenes.full();
        x.release();
        x.step(64);
        boolean[] seen = new boolean[32];
        for (int t = 0; t < 32; t++) {
            int number = x.bus.doneOrder(t);
            Due.yes("doneOrder(" + t + ") is new", number >= 0 && number < 32 && !seen[number]);
            seen[number] = true;
            for (int u = 0; u < 32; u++) {
                boolean earlier = x.bus.doneCycle(u) < x.bus.doneCycle(t);
                Due.no("a later one with a smaller number", earlier && x.bus.doneOrder(u) > number);
            }
        }
    }
}
