/** Promises 4, 5 and 6, with what 'Terms' says of W queues, latencies and flags: a test for each boundary. */
public final class SettingsBoundaryTest {
    private static final int LOW = Integer.MIN_VALUE;
    private static final int HIGH = Integer.MAX_VALUE;
    private static final int[] NOT_MANAGERS = {LOW, -2, -1, 2, 3, HIGH};

    private SettingsBoundaryTest() {
    }

    public static void main(String[] args) {
        dataManagers();
        dataFull();
        dataAnyInt();
        dataRoomForOne();
        dataFirstInFirstOut();
        dataNothingElse();
        latencySubordinates();
        latencyEntries();
        latencyLeast();
        latencyMost();
        latencyOneEntryEach();
        latencyWrapsAround();
        latencyOfEachSubordinate();
        latencyOfBothKinds();
        latencyOfAcceptedRead();
        latencyOfAcceptedWrite();
        latencyKeepsPlace();
        latencyOfErrors();
        latencyNothingElse();
        readyManagers();
        readyEachFlag();
        readyWritePointer();
        readyReadPointer();
        readyLater();
        readyNothingElse();
        Due.end();
    }

    // Promise 4

    private static void dataManagers() {
        Due.sentence("promise 4", "answers false, changing nothing, if m is not in 0..1");
        Watched x = new Watched();
        for (int m : NOT_MANAGERS) {
            Due.no("writeData(" + m + ", 1)", x.writeData(m, 1));
        }
        Due.yes("writeData(0, 1)", x.writeData(0, 1));
        Due.yes("writeData(1, 1)", x.writeData(1, 1));
        Due.is("pendingData(0)", x.bus.pendingData(0), 1);
        Due.is("pendingData(1)", x.bus.pendingData(1), 1);
    }

    private static void dataFull() {
        Due.sentence("promise 4", "or m's W queue already holds 8 values");
        for (int m = 0; m < 2; m++) {
            Watched x = new Watched();
            for (int i = 1; i <= 8; i++) {
                Due.yes("value " + i, x.writeData(m, i));
                Due.is("pendingData", x.bus.pendingData(m), i);
            }
            Due.no("value 9", x.writeData(m, 9));
            Due.no("value 9 again", x.writeData(m, 9));
            Due.is("pendingData", x.bus.pendingData(m), 8);
            Due.is("pendingData of the other", x.bus.pendingData(1 - m), 0);
            Due.yes("the other has room", x.writeData(1 - m, 1));
            x.issueWrite(m, 0, 0, 4);
            x.issueWrite(m, 0, 4, 4);
            x.step(12);
            for (int a = 0; a < 8; a++) {
                Due.is("memory(" + a + ")", x.bus.memory(a), a + 1);
            }
            Due.is("value 9 was not taken", x.bus.pendingData(m), 0);
        }
    }

    private static void dataAnyInt() {
        Due.sentence("promise 4", "appends value (any int)");
        int[] values = {LOW, LOW + 1, -1, 0, 1, HIGH - 1, HIGH};
        for (int value : values) {
            Watched x = new Watched();
            x.writeData(1, value);
            x.issueWrite(1, 0, 23, 1);
            x.step(3);
            Due.is("memory(23)", x.bus.memory(23), value);
            x.issueRead(0, 0, 23, 1);
            x.step(2);
            Due.is("readData(1, 0)", x.bus.readData(1, 0), value);
        }
    }

    private static void dataRoomForOne() {
        Due.sentence("terms", "a W queue of up to 8 write-data values");
        for (int m = 0; m < 2; m++) {
            Watched x = new Watched();
            for (int i = 0; i < 8; i++) {
                x.writeData(m, i);
            }
            x.issueWrite(m, 0, 0, 2);
            x.step(1);
            Due.no("none has left", x.writeData(m, 8));
            x.step(1);
            Due.is("one has left", x.bus.pendingData(m), 7);
            Due.yes("there is room for one", x.writeData(m, 8));
            Due.no("full again", x.writeData(m, 9));
        }
    }

    private static void dataFirstInFirstOut() {
        Due.sentence("terms", "W queue .. first-in first-out");
        for (int m = 0; m < 2; m++) {
            for (int before = 0; before < 17; before++) {
                Watched x = new Watched();
                for (int i = 0; i < before; i++) {
                    x.quick(true, m, 0, 0);
                }
                for (int i = 0; i < 8; i++) {
                    Due.yes("room", x.writeData(m, 100 + i));
                }
                Due.no("full", x.writeData(m, 108));
                x.issueWrite(m, 0, 8, 4);
                x.issueWrite(m, 0, 12, 4);
                x.step(12);
                for (int i = 0; i < 8; i++) {
                    Due.is("value " + i + " after " + before, x.bus.memory(8 + i), 100 + i);
                }
                Due.is("empty", x.bus.pendingData(m), 0);
            }
        }
    }

    private static void dataNothingElse() {
        Due.sentence("promise 4", "Nothing else changes");
        Watched[] scenes = {Scenes.fresh(), Scenes.busy(), Scenes.worn()};
        for (Watched x : scenes) {
            for (int m = 0; m < 2; m++) {
                String changes = "pendingData(" + m + ")";
                Answers before = Answers.of(x.bus);
                int due = x.bus.pendingData(m) + 1;
                Due.yes("writeData", x.writeData(m, 5));
                Answers.of(x.bus).mustBe("writeData", before, q -> q.name().equals(changes));
                Due.is(changes, x.bus.pendingData(m), due);
            }
        }
    }

    // Promise 5

    private static void latencySubordinates() {
        Due.sentence("promise 5", "answers false .. if s is not in 0..2");
        Watched x = new Watched();
        for (int s : new int[] {LOW, -1, 3, 4, HIGH}) {
            Due.no("setLatency(" + s + ", 0, 9)", x.setLatency(s, 0, 9));
        }
        for (int s = 0; s <= 2; s++) {
            Due.yes("setLatency(" + s + ", 0, 9)", x.setLatency(s, 0, 9));
        }
    }

    private static void latencyEntries() {
        Due.sentence("promise 5", "answers false .. idx is not in 0..3");
        for (int s = 0; s <= 2; s++) {
            Watched x = new Watched();
            for (int idx : new int[] {LOW, -1, 4, 5, HIGH}) {
                Due.no("setLatency(" + s + ", " + idx + ", 9)", x.setLatency(s, idx, 9));
            }
            for (int i = 0; i < 12; i++) {
                Due.is("delay at " + i % 3, x.delayOfRead(0, 8 * (i % 3)), 1);
            }
            for (int idx = 0; idx <= 3; idx++) {
                Due.yes("setLatency(" + s + ", " + idx + ", 9)", x.setLatency(s, idx, 9));
            }
        }
    }

    private static void latencyLeast() {
        Due.sentence("promise 5", "answers false .. lat is not in 1..15", "too small");
        Watched x = new Watched();
        x.setLatency(1, 0, 4);
        for (int lat : new int[] {LOW, -1, 0}) {
            Due.no("setLatency(1, 0, " + lat + ")", x.setLatency(1, 0, lat));
        }
        Due.is("delay", x.delayOfRead(0, 8), 4);
        Due.yes("setLatency(1, 1, 1)", x.setLatency(1, 1, 1));
        Due.is("delay", x.delayOfRead(0, 8), 1);
        Due.yes("setLatency(1, 2, 2)", x.setLatency(1, 2, 2));
        Due.is("delay", x.delayOfRead(0, 8), 2);
    }

    private static void latencyMost() {
        Due.sentence("promise 5", "answers false .. lat is not in 1..15", "too large");
        Watched x = new Watched();
        x.setLatency(1, 0, 4);
        for (int lat : new int[] {16, 17, HIGH}) {
            Due.no("setLatency(1, 0, " + lat + ")", x.setLatency(1, 0, lat));
        }
        Due.is("delay", x.delayOfRead(0, 8), 4);
        Due.yes("setLatency(1, 1, 15)", x.setLatency(1, 1, 15));
        Due.is("delay", x.delayOfRead(0, 8), 15);
        Due.yes("setLatency(1, 2, 15)", x.setLatency(1, 2, 15));
        Due.is("delay", x.delayOfWrite(0, 8), 15);
    }

    private static void latencyOneEntryEach() {
        Due.sentence("promise 5", "sets script[s][idx] := lat");
        for (int s = 0; s <= 2; s++) {
            for (int idx = 0; idx <= 3; idx++) {
                Watched x = new Watched();
                x.setLatency(s, idx, 7);
                for (int at = 0; at <= 2; at++) {
                    for (int k = 0; k <= 3; k++) {
                        Due.is("delay " + k + " at " + at, x.delayOfRead(0, 8 * at), at == s && k == idx ? 7 : 1);
                    }
                }
            }
        }
    }

    private static void latencyWrapsAround() {
        Due.sentence("terms", "Its k-th accepted transaction (k from 0) gets latency script[s][k % 4]");
        for (int s = 0; s <= 2; s++) {
            Watched x = new Watched();
            for (int idx = 0; idx <= 3; idx++) {
                x.setLatency(s, idx, 4 * s + idx + 2);
            }
            for (int k = 0; k < 13; k++) {
                Due.is("delay " + k + " at " + s, x.delayOfRead(k % 2, 8 * s), 4 * s + k % 4 + 2);
            }
        }
    }

    private static void latencyOfEachSubordinate() {
        Due.sentence("terms", "Each subordinate s in 0..2 has a latency script of 4 entries (all 1 at start) and a count k_s");
        for (int s = 0; s <= 2; s++) {
            for (int other = 0; other <= 3; other++) {
                for (int taken = 1; taken <= 4 && other != s; taken++) {
                    Watched x = new Watched();
                    x.setLatency(s, 0, 9);
                    for (int i = 0; i < taken; i++) {
                        x.delayOfRead(0, 8 * other);
                    }
                    Due.is("first delay at " + s + " after " + taken + " at " + other, x.delayOfRead(0, 8 * s), 9);
                }
            }
        }
    }

    private static void latencyOfBothKinds() {
        Due.sentence("terms", "a count k_s of transactions it has accepted, reads and writes together");
        for (int s = 0; s <= 2; s++) {
            Watched x = new Watched();
            for (int idx = 0; idx <= 3; idx++) {
                x.setLatency(s, idx, 3 * idx + 2);
            }
            for (int k = 0; k < 9; k++) {
                int delay = k % 3 == 0 ? x.delayOfRead(0, 8 * s) : x.delayOfWrite(1, 8 * s);
                Due.is("delay " + k + " at " + s, delay, 3 * (k % 4) + 2);
            }
        }
    }

    private static void latencyOfAcceptedRead() {
        Due.sentence("promise 5", "ready cycles already set stay");
        for (int lat = 1; lat <= 15; lat += 7) {
            Watched x = new Watched();
            x.setLatency(0, 0, 8);
            x.issueRead(0, 0, 0, 1);
            x.step(1);
            for (int idx = 0; idx <= 3; idx++) {
                x.setLatency(0, idx, lat);
            }
            x.step(20);
            Due.is("doneCycle(0)", x.bus.doneCycle(0), 9);
            Due.is("the next one", x.delayOfRead(0, 0), lat);
        }
    }

    private static void latencyOfAcceptedWrite() {
        Due.sentence("promise 5", "transactions already accepted keep their latency");
        for (int lat = 1; lat <= 15; lat += 7) {
            Watched x = new Watched();
            x.setLatency(0, 0, 8);
            x.issueWrite(0, 0, 0, 1);
            x.step(1);
            for (int idx = 0; idx <= 3; idx++) {
                x.setLatency(0, idx, lat);
            }
            x.writeData(0, 3);
            x.step(20);
            Due.is("doneCycle(0)", x.bus.doneCycle(0), 10);
            Due.is("the next one", x.delayOfWrite(0, 0), lat);
        }
        Watched x = new Watched();
        x.issueRead(0, 0, 0, 1);
        x.setLatency(0, 0, 6);
        x.step(20);
        Due.is("a QUEUED one takes the new entry", x.bus.doneCycle(0), 7);
    }

    private static void latencyKeepsPlace() {
        Due.sentence("promise 5", "k_s is not changed");
        for (int taken = 0; taken < 6; taken++) {
            Watched x = new Watched();
            for (int i = 0; i < taken; i++) {
                x.delayOfRead(0, 16);
            }
            for (int idx = 0; idx <= 3; idx++) {
                x.setLatency(2, idx, 2 + idx);
            }
            Due.is("delay after " + taken, x.delayOfRead(0, 16), 2 + taken % 4);
        }
    }

    private static void latencyOfErrors() {
        Due.sentence("promise 5", "Subordinate 3 has no script and always gives latency 1");
        Watched x = new Watched();
        for (int idx = -1; idx <= 4; idx++) {
            Due.no("setLatency(3, " + idx + ", 9)", x.setLatency(3, idx, 9));
            for (int s = 0; s <= 2; s++) {
                x.setLatency(s, idx, 9);
            }
        }
        for (int i = 0; i < 6; i++) {
            Due.is("delay of a read", x.delayOfRead(i % 2, 24), 1);
            Due.is("delay of a write", x.delayOfWrite(i % 2, 31), 1);
        }
    }

    private static void latencyNothingElse() {
        Due.sentence("promise 5", "The new entry affects only acceptances after this call");
        Watched[] scenes = {Scenes.fresh(), Scenes.busy(), Scenes.full(), Scenes.worn()};
        for (Watched x : scenes) {
            Answers before = Answers.of(x.bus);
            for (int i = 0; i < 12; i++) {
                Due.yes("setLatency", x.setLatency(i % 3, i / 3, 15 - i));
            }
            Answers.of(x.bus).mustBe("setLatency", before);
        }
    }

    // Promise 6

    private static void readyManagers() {
        Due.sentence("promise 6", "answers false, changing nothing, if m is not in 0..1");
        Watched x = new Watched();
        for (int m : NOT_MANAGERS) {
            Due.no("setReady(" + m + ", false, false)", x.setReady(m, false, false));
            Due.no("setReady(" + m + ", true, true)", x.setReady(m, true, true));
        }
        for (int m = 0; m < 2; m++) {
            x.isOkay(x.quick(true, m, 0, 0));
            x.isOkay(x.quick(false, m, 0, 0));
            Due.yes("setReady(" + m + ", false, false)", x.setReady(m, false, false));
            Due.yes("setReady(" + m + ", true, true)", x.setReady(m, true, true));
        }
    }

    /** All four flags at once, so that each value of each flag meets each value of the others. */
    private static void readyEachFlag() {
        Due.sentence("promise 6", "whose bReady is false takes no write response .. whose rReady is false takes no read beat");
        for (int flags = 0; flags < 16; flags++) {
            Watched x = new Watched();
            x.setReady(0, (flags & 1) != 0, (flags & 2) != 0);
            x.setReady(1, (flags & 4) != 0, (flags & 8) != 0);
            for (int m = 0; m < 2; m++) {
                x.issueWrite(m, 0, 16 * m, 1);
                x.writeData(m, 30 + m);
                x.issueRead(m, 0, 16 * m + 1, 1);
            }
            x.step(9);
            for (int t = 0; t < 4; t++) {
                boolean ready = (flags >> t & 1) != 0;
                Due.is("status(" + t + ") under " + flags, x.bus.status(t), ready ? IdInterconnect.ST_OKAY : IdInterconnect.ST_ACTIVE);
                boolean write = t % 2 == 0;
                Due.is("beats(" + t + ") under " + flags, x.bus.beats(t), ready || write ? 1 : 0);
            }
            Due.is("memory(0)", x.bus.memory(0), (flags & 1) != 0 ? 30 : 0);
            Due.is("memory(16)", x.bus.memory(16), (flags & 4) != 0 ? 31 : 0);
        }
    }

    private static void readyWritePointer() {
        Due.sentence("promise 6", "takes no write response in a cycle, and its bPtr is left unchanged");
        pointerStays(true);
    }

    private static void readyReadPointer() {
        Due.sentence("promise 6", "takes no read beat in a cycle, and its rPtr is left unchanged");
        pointerStays(false);
    }

    private static void pointerStays(boolean write) {
        for (int m = 0; m < 2; m++) {
            for (int pointer = 0; pointer < 4; pointer++) {
                Watched x = new Watched();
                x.quick(write, m, (pointer + 3) % 4, 0);
                x.hold();
                for (int id = 0; id < 4; id++) {
                    x.issue(write, m, id, 8, 1);
                    x.writeData(m, id);
                }
                // Nine cycles find all four ids ready and the flag false.
                x.step(15);
                x.release();
                x.step(1);
                Due.is("id " + pointer + " goes first", x.bus.doneOrder(1 + pointer), 1);
            }
        }
    }

    private static void readyLater() {
        Due.sentence("promise 6", "stay as they are until a later cycle finds the flag true");
        for (int m = 0; m < 2; m++) {
            Watched x = new Watched();
            x.hold();
            x.issueWrite(m, 0, 0, 1);
            x.writeData(m, 3);
            x.issueRead(m, 0, 1, 1);
            x.step(64);
            x.isActive(0);
            x.isActive(1);
            x.setReady(m, true, true);
            x.isActive(0);
            x.isActive(1);
            x.step(1);
            Due.is("doneCycle(0)", x.bus.doneCycle(0), 65);
            Due.is("doneCycle(1)", x.bus.doneCycle(1), 65);
        }
    }

    private static void readyNothingElse() {
        Due.sentence("promise 6", "Setting a flag changes nothing else");
        Watched[] scenes = {Scenes.fresh(), Scenes.busy(), Scenes.full(), Scenes.worn()};
        for (Watched x : scenes) {
            Answers before = Answers.of(x.bus);
            for (int i = 0; i < 8; i++) {
                Due.yes("setReady", x.setReady(i % 2, i / 2 % 2 == 0, i / 4 == 0));
            }
            Answers.of(x.bus).mustBe("setReady", before);
        }
    }
}
