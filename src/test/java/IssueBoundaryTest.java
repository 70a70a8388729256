/** Promises 2 and 3, with what 'Terms' says of addresses, bursts, tickets and queues: a test for each boundary. */
public final class IssueBoundaryTest {
    private static final int LOW = Integer.MIN_VALUE;
    private static final int HIGH = Integer.MAX_VALUE;
    private static final boolean[] KINDS = {false, true};

    private IssueBoundaryTest() {
    }

    public static void main(String[] args) {
        for (boolean write : KINDS) {
            managers(write);
            ids(write);
            addresses(write);
            lengths(write);
            spans(write);
            words(write);
            errorAddresses(write);
            fullQueue(write);
            otherQueuesDoNotCount(write);
            roomForOne(write);
            firstInFirstOut(write);
            fewerThan32(write);
            heldTicket(write);
            doneTicket(write);
            argumentsBeforeFull(write);
            argumentsBeforeSlot(write);
            fullBeforeSlot(write);
            refusedTakesNoTicket(write);
            newOneIsQueued(write);
            oldOneLeaves(write);
            nothingElse(write);
            onlyDoneOnesLeave(write);
        }
        oneCounter();
        validWindow();
        Due.end();
    }

    private static String place(boolean write) {
        return write ? "promise 3" : "promise 2";
    }

    private static void isArg(boolean write, int m, int id, int addr, int len) {
        String call = "(" + m + ", " + id + ", " + addr + ", " + len + ")";
        Due.is(call, new Watched().issue(write, m, id, addr, len), IdInterconnect.ERR_ARG);
    }

    private static void isTaken(boolean write, int m, int id, int addr, int len) {
        String call = "(" + m + ", " + id + ", " + addr + ", " + len + ")";
        Due.is(call, new Watched().issue(write, m, id, addr, len), 0);
    }

    // Condition 1

    private static void managers(boolean write) {
        Due.sentence(place(write), "m not in 0..1 .. answers ERR_ARG");
        for (int m : new int[] {LOW, -2, -1, 2, 3, HIGH}) {
            isArg(write, m, 0, 0, 1);
        }
        isTaken(write, 0, 0, 0, 1);
        isTaken(write, 1, 0, 0, 1);
    }

    private static void ids(boolean write) {
        Due.sentence(place(write), "id not in 0..3 .. answers ERR_ARG");
        for (int id : new int[] {LOW, -4, -1, 4, 5, HIGH}) {
            isArg(write, 0, id, 0, 1);
            isArg(write, 1, id, 0, 1);
        }
        for (int id = 0; id <= 3; id++) {
            isTaken(write, 0, id, 0, 1);
            isTaken(write, 1, id, 0, 1);
        }
    }

    private static void addresses(boolean write) {
        Due.sentence(place(write), "addr not in 0..31 .. answers ERR_ARG");
        // -8 and LOW are multiples of 8, so that the sum of condition 1 alone would let them pass.
        for (int addr : new int[] {LOW, -32, -8, -1, 32, 33, 40, HIGH}) {
            isArg(write, 0, 0, addr, 1);
            isArg(write, 1, 0, addr, 1);
        }
        for (int addr = 0; addr <= 31; addr++) {
            isTaken(write, 0, 0, addr, 1);
        }
    }

    private static void lengths(boolean write) {
        Due.sentence(place(write), "len not in 1..4 .. answers ERR_ARG");
        for (int addr = 0; addr < 32; addr += 8) {
            for (int len : new int[] {LOW, -1, 0, 5, 6, 8, HIGH}) {
                isArg(write, 0, 0, addr, len);
            }
            for (int len = 1; len <= 4; len++) {
                isTaken(write, 0, 0, addr, len);
            }
        }
    }

    private static void spans(boolean write) {
        Due.sentence(place(write), "(addr % 8) + len > 8: answers ERR_ARG");
        for (int first = 0; first < 32; first += 8) {
            for (int len = 1; len <= 4; len++) {
                isTaken(write, 1, 3, first + 8 - len, len);
                for (int addr = first + 9 - len; addr < first + 8; addr++) {
                    isArg(write, 1, 3, addr, len);
                }
            }
        }
    }

    // Addresses

    private static void words(boolean write) {
        Due.sentence("terms", "Address a in 0..23 is memory word a, held by subordinate a/8");
        for (int a = 0; a <= 23; a++) {
            Watched x = new Watched();
            x.issue(write, 0, 0, a, 1);
            x.step(1);
            for (int s = 0; s < 4; s++) {
                Due.is("subLoad(" + s + ") for " + a, x.bus.subLoad(s), s == a / 8 ? 1 : 0);
            }
            x.writeData(0, 70 + a);
            x.step(2);
            x.isOkay(0);
            for (int i = 0; i <= 31; i++) {
                Due.is("memory(" + i + ")", x.bus.memory(i), write && i == a ? 70 + a : 0);
            }
        }
    }

    private static void errorAddresses(boolean write) {
        Due.sentence("terms", "Addresses 24..31 decode to the error subordinate 3, which holds no memory");
        for (int a = 24; a <= 31; a++) {
            Watched x = new Watched();
            x.issue(write, 0, 0, a, 1);
            x.step(1);
            for (int s = 0; s < 4; s++) {
                Due.is("subLoad(" + s + ") for " + a, x.bus.subLoad(s), s == 3 ? 1 : 0);
            }
            x.writeData(0, 70 + a);
            x.step(2);
            x.isDecerr(0);
            for (int i = 0; i <= 31; i++) {
                Due.is("memory(" + i + ")", x.bus.memory(i), 0);
            }
        }
    }

    // Condition 2

    private static void fullQueue(boolean write) {
        Due.sentence(place(write), "m's AR queue holds 4 requests: answers ERR_FULL", write ? "the AW queue" : "the AR queue");
        for (int m = 0; m < 2; m++) {
            Watched x = new Watched();
            for (int i = 0; i < 4; i++) {
                Due.is("request " + i, x.issue(write, m, i, 8 * i, 1), i);
            }
            for (int i = 0; i < 3; i++) {
                Due.is("one more", x.issue(write, m, i, 0, 1), IdInterconnect.ERR_FULL);
            }
            // ACTIVE ones do not count: all four have left the queue.
            x.step(1);
            for (int i = 4; i < 8; i++) {
                Due.is("request " + i, x.issue(write, m, 0, 0, 1), i);
            }
            Due.is("one more", x.issue(write, m, 0, 0, 1), IdInterconnect.ERR_FULL);
        }
    }

    private static void otherQueuesDoNotCount(boolean write) {
        Due.sentence("promise 3", "holding 4 requests gives ERR_FULL regardless of the AR queue");
        for (int m = 0; m < 2; m++) {
            Watched x = new Watched();
            fill(x, !write, m);
            fill(x, write, 1 - m);
            fill(x, !write, 1 - m);
            for (int i = 0; i < 4; i++) {
                Due.is("the others are full", x.issue(write, m, 0, 0, 1), 12 + i);
            }
            Due.is("all are full", x.issue(write, m, 0, 0, 1), IdInterconnect.ERR_FULL);
            x = new Watched();
            fill(x, write, m);
            Due.is("the others are empty", x.issue(write, m, 0, 0, 1), IdInterconnect.ERR_FULL);
            Due.is("the other kind", x.issue(!write, m, 0, 0, 1), 4);
            Due.is("the other manager", x.issue(write, 1 - m, 0, 0, 1), 5);
            Due.is("the other kind and manager", x.issue(!write, 1 - m, 0, 0, 1), 6);
        }
    }

    private static void fill(Watched x, boolean write, int m) {
        for (int i = 0; i < 4; i++) {
            x.issue(write, m, 0, 0, 1);
        }
    }

    private static void roomForOne(boolean write) {
        Due.sentence("terms", "an AW queue and an AR queue of 4 requests each");
        for (int m = 0; m < 2; m++) {
            Watched x = new Watched();
            fill(x, write, m);
            // The same subordinate takes one a cycle from a channel.
            x.step(1);
            x.isActive(0);
            x.isQueued(1);
            Due.is("one has left", x.issue(write, m, 0, 0, 1), 4);
            Due.is("full again", x.issue(write, m, 0, 0, 1), IdInterconnect.ERR_FULL);
        }
    }

    private static void firstInFirstOut(boolean write) {
        Due.sentence("terms", "both first-in first-out");
        for (int m = 0; m < 2; m++) {
            for (int before = 0; before < 8; before++) {
                Watched x = new Watched();
                for (int i = 0; i < before; i++) {
                    x.isOkay(x.quick(write, m, 0, 0));
                }
                fill(x, write, m);
                for (int i = 0; i < 4; i++) {
                    x.isQueued(before + i);
                    x.step(1);
                    Due.no("accepted in turn", x.bus.status(before + i) == IdInterconnect.ST_QUEUED);
                }
            }
        }
    }

    // Condition 3

    private static void fewerThan32(boolean write) {
        Due.sentence(place(write), "T >= 32 and ticket T-32 is not DONE: answers ERR_SLOT");
        for (int m = 0; m < 2; m++) {
            Watched x = new Watched();
            x.setReady(0, true, false);
            x.issueRead(0, 0, 0, 1);
            x.giveTickets(31, 1, 0, 8);
            x.isActive(0);
            Due.is("the 32nd ticket", x.issue(write, m, 3, 0, 1), 31);
            Due.is("no 33rd while ticket 0 is ACTIVE", x.issue(write, m, 3, 0, 1), IdInterconnect.ERR_SLOT);
        }
    }

    private static void heldTicket(boolean write) {
        Due.sentence(place(write), "ticket T-32 is not DONE", "QUEUED or ACTIVE");
        for (boolean zero : KINDS) {
            for (int state : new int[] {IdInterconnect.ST_QUEUED, IdInterconnect.ST_ACTIVE}) {
                Watched x = Scenes.ticketZero(state, zero);
                Due.is("status(0)", x.bus.status(0), state);
                Due.is("manager 0", x.issue(write, 0, 0, 0, 1), IdInterconnect.ERR_SLOT);
                Due.is("manager 1", x.issue(write, 1, 3, 31, 1), IdInterconnect.ERR_SLOT);
                Due.is("status(0)", x.bus.status(0), state);
            }
        }
        Watched x = new Watched();
        x.issueRead(0, 0, 0, 4);
        x.step(4);
        x.setReady(0, true, false);
        x.giveTickets(32, 1, 0, 8);
        Due.is("all beats but one", x.bus.beats(0), 3);
        Due.is("a beat is missing", x.issue(write, 1, 0, 0, 1), IdInterconnect.ERR_SLOT);
        x.setReady(0, true, true);
        x.step(1);
        Due.is("no beat is missing", x.issue(write, 1, 0, 0, 1), 32);
    }

    private static void doneTicket(boolean write) {
        Due.sentence(place(write), "Otherwise the call answers T", "ticket T-32 is DONE");
        for (boolean zero : KINDS) {
            for (int state : new int[] {IdInterconnect.ST_OKAY, IdInterconnect.ST_DECERR}) {
                Watched x = Scenes.ticketZero(state, zero);
                Due.is("status(0)", x.bus.status(0), state);
                Due.is("the 33rd ticket", x.issue(write, 0, 0, 0, 1), 32);
            }
        }
    }

    // The order of the conditions

    private static void argumentsBeforeFull(boolean write) {
        Due.sentence(place(write), "considered in this order", "ERR_ARG before ERR_FULL");
        for (int m = 0; m < 2; m++) {
            Watched x = new Watched();
            fill(x, write, m);
            wrongArguments(x, write, m);
            Due.is("right arguments", x.issue(write, m, 0, 0, 1), IdInterconnect.ERR_FULL);
        }
    }

    private static void argumentsBeforeSlot(boolean write) {
        Due.sentence(place(write), "considered in this order", "ERR_ARG before ERR_SLOT");
        for (int m = 0; m < 2; m++) {
            Watched x = Scenes.ticketZero(IdInterconnect.ST_ACTIVE, false);
            wrongArguments(x, write, m);
            Due.is("right arguments", x.issue(write, m, 0, 0, 1), IdInterconnect.ERR_SLOT);
        }
    }

    private static void wrongArguments(Watched x, boolean write, int m) {
        Due.is("wrong m", x.issue(write, m == 0 ? -1 : 2, 0, 0, 1), IdInterconnect.ERR_ARG);
        Due.is("low id", x.issue(write, m, -1, 0, 1), IdInterconnect.ERR_ARG);
        Due.is("high id", x.issue(write, m, 4, 0, 1), IdInterconnect.ERR_ARG);
        Due.is("low addr", x.issue(write, m, 0, -1, 1), IdInterconnect.ERR_ARG);
        Due.is("high addr", x.issue(write, m, 0, 32, 1), IdInterconnect.ERR_ARG);
        Due.is("low len", x.issue(write, m, 0, 0, 0), IdInterconnect.ERR_ARG);
        Due.is("high len", x.issue(write, m, 0, 0, 5), IdInterconnect.ERR_ARG);
        Due.is("two subordinates", x.issue(write, m, 0, 7, 2), IdInterconnect.ERR_ARG);
    }

    private static void fullBeforeSlot(boolean write) {
        Due.sentence(place(write), "considered in this order", "ERR_FULL before ERR_SLOT");
        Watched x = Scenes.full();
        Due.is("T is 32", x.tickets(), 32);
        for (int m = 0; m < 2; m++) {
            Due.is("full and no slot", x.issue(write, m, 0, 0, 1), IdInterconnect.ERR_FULL);
        }
        Due.no("ticket 0 is not DONE", x.isDone(0));
    }

    // What a call does

    private static void refusedTakesNoTicket(boolean write) {
        Due.sentence("terms", "Every accepted issue call gets the next ticket");
        Watched x = new Watched();
        wrongArguments(x, write, 0);
        fill(x, write, 0);
        Due.is("refused", x.issue(write, 0, 0, 0, 1), IdInterconnect.ERR_FULL);
        Due.is("the next ticket", x.issue(write, 1, 0, 0, 1), 4);
    }

    private static void newOneIsQueued(boolean write) {
        Due.sentence(place(write), "QUEUED with ticket T .. with 0 beats given");
        for (boolean before : KINDS) {
            Watched x = new Watched();
            for (int i = 0; i < 32; i++) {
                x.issue(before, 0, 0, 8, 4);
                for (int beat = 0; beat < 4; beat++) {
                    x.writeData(0, 5);
                }
                x.step(7);
            }
            for (int t = 32; t < 36; t++) {
                Due.is("ticket", x.issue(write, 1, 2, 9, 2), t);
                x.isQueued(t);
                Due.is("beats(" + t + ")", x.bus.beats(t), 0);
                Due.is("doneOrder(" + t + ")", x.bus.doneOrder(t), -1);
                Due.is("doneCycle(" + t + ")", x.bus.doneCycle(t), -1);
                for (int i = 0; i < 4; i++) {
                    Due.is("readData(" + t + ", " + i + ")", x.bus.readData(t, i), 0);
                }
            }
        }
    }

    private static void oldOneLeaves(boolean write) {
        Due.sentence(place(write), "the ticket that was T-32 before the call .. stops being VALID");
        Watched x = Scenes.ticketZero(IdInterconnect.ST_OKAY, false);
        x.isOkay(0);
        x.isOkay(1);
        x.isNone(32);
        Due.is("the 33rd", x.issue(write, 0, 0, 0, 1), 32);
        x.isNone(0);
        x.isOkay(1);
        x.isQueued(32);
        x.isNone(33);
        Due.is("the 34th", x.issue(write, 0, 0, 0, 1), 33);
        x.isNone(1);
        x.isOkay(2);
        x.isQueued(33);
    }

    private static void nothingElse(boolean write) {
        Due.sentence(place(write), "Nothing else changes");
        for (int m = 0; m < 2; m++) {
            takesOneTicketOnly(Scenes.fresh(), write, m);
            takesOneTicketOnly(Scenes.narrow(), write, m);
            takesOneTicketOnly(Scenes.busy(), write, m);
            takesOneTicketOnly(Scenes.worn(), write, m);
            takesOneTicketOnly(Scenes.ticketZero(IdInterconnect.ST_OKAY, true), write, m);
        }
    }

    private static void takesOneTicketOnly(Watched x, boolean write, int m) {
        int next = x.tickets();
        Answers before = Answers.of(x.bus);
        Due.is("ticket", x.issue(write, m, 1, 3, 4), next);
        Answers.of(x.bus).mustBe("ticket " + next, before, q -> q.ticket() == next || q.ticket() == next - 32);
    }

    private static void onlyDoneOnesLeave(boolean write) {
        Due.sentence(place(write), "a ticket stops being VALID only when its transaction is already DONE");
        Watched x = Scenes.full();
        for (int i = 0; i < 300; i++) {
            int leaving = x.tickets() - 32;
            boolean done = x.isDone(leaving);
            int answer = x.issue(write, i % 2, i % 4, 8 * (i % 4), 1);
            if (answer >= 0) {
                Due.yes("ticket " + leaving + " was DONE", done);
                x.isNone(leaving);
            } else {
                Due.no("ticket " + leaving + " is VALID", x.bus.status(leaving) == IdInterconnect.ST_NONE);
            }
            x.setReady(i / 7 % 2, i % 3 == 0, i % 5 == 0);
            x.writeData(i % 2, i);
            x.step(1);
        }
        Due.yes("tickets have left", x.tickets() > 40);
    }

    private static void oneCounter() {
        Due.sentence("terms", "One counter serves both managers and both kinds");
        Watched x = new Watched();
        int due = 0;
        for (int i = 0; i < 3; i++) {
            for (int m = 1; m >= 0; m--) {
                for (boolean write : KINDS) {
                    Due.is("ticket", x.issue(write, m, i, 8 * i, 1), due);
                    due++;
                }
            }
        }
    }

    private static void validWindow() {
        Due.sentence("terms", "Ticket t is VALID while 0 <= t < T and t >= T-32");
        Watched x = new Watched();
        for (int given = 0; given <= 100; given++) {
            for (int t = -3; t <= given + 3; t++) {
                boolean valid = t >= 0 && t < given && t >= given - 32;
                Due.is("status(" + t + ") of " + given, x.bus.status(t), valid ? IdInterconnect.ST_OKAY : IdInterconnect.ST_NONE);
                Due.is("beats(" + t + ") of " + given, x.bus.beats(t), valid ? 1 : -1);
                Due.is("doneOrder(" + t + ") of " + given, x.bus.doneOrder(t), valid ? t : -1);
                Due.is("doneCycle(" + t + ") of " + given, x.bus.doneCycle(t), valid ? 3 * t + 2 : -1);
            }
            x.quick(false, given % 2, given % 4, given % 24);
        }
    }
}
