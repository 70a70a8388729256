/** States of a bus that are hard to come by, each made anew by the same calls. */
final class Scenes {
    private Scenes() {
    }

    static Watched fresh() {
        return new Watched();
    }

    static Watched narrow() {
        return new Watched(1, 1);
    }

    /** All states, kinds and subordinates at once; pointers, priorities and scripts have moved; flags differ. */
    static Watched busy() {
        Watched x = new Watched(5, 3);
        x.setLatency(0, 0, 3);
        x.setLatency(0, 2, 5);
        x.setLatency(1, 1, 6);
        x.setLatency(2, 3, 15);
        x.issueRead(0, 1, 0, 4);
        x.issueRead(1, 2, 8, 3);
        x.issueWrite(0, 0, 4, 2);
        x.issueWrite(1, 3, 16, 4);
        x.issueRead(0, 2, 25, 2);
        x.issueWrite(1, 1, 26, 1);
        for (int i = 0; i < 7; i++) {
            x.writeData(i % 2, 900 + i);
        }
        x.step(7);
        x.setReady(0, false, true);
        x.setReady(1, true, false);
        for (int m = 0; m < 2; m++) {
            x.issueRead(m, 3, 17, 4);
            x.issueRead(m, 0, 2, 2);
            x.issueWrite(m, 2, 9, 2);
            x.issueWrite(m, 2, 24, 3);
        }
        x.writeData(1, 950);
        x.writeData(1, 951);
        x.step(3);
        return x;
    }

    /** Both limits, all caps, all queues and all 32 tickets are used up, and neither manager takes anything. */
    static Watched full() {
        Watched x = new Watched();
        x.hold();
        for (int round = 0; round < 2; round++) {
            for (int s = 0; s < 4; s++) {
                for (int m = 0; m < 2; m++) {
                    x.issueRead(m, s, 8 * s, 2);
                    x.issueWrite(m, s, 8 * s + 4, 1);
                    x.writeData(m, 100 * m + 10 * round + s);
                }
            }
            x.step(16);
        }
        for (int i = 0; i < 4; i++) {
            x.writeData(0, 300 + i);
            x.writeData(1, 400 + i);
        }
        return x;
    }

    /**
     * T is 32 and ticket 0, a read, has one of its two beats; all four ids of each channel wait for their answer, and
     * two requests stand in each address queue.
     */
    static Watched piled() {
        Watched x = new Watched();
        x.issueRead(0, 0, 0, 2);
        x.step(2);
        x.setReady(0, false, false);
        x.giveTickets(9, 1, 2, 16);
        x.hold();
        for (int s = 0; s < 4; s++) {
            for (int m = 0; m < 2; m++) {
                if (s + m > 0) {
                    x.issueRead(m, s, 8 * s, 2);
                }
                x.issueWrite(m, s, 8 * s + 4, 1);
                x.writeData(m, 700 + 10 * m + s);
            }
        }
        x.step(16);
        for (int m = 0; m < 2; m++) {
            for (int s = 0; s < 2; s++) {
                x.issueRead(m, 1 + s, 8 + 8 * s, 1);
                x.issueWrite(m, s, 8 * s, 1);
            }
        }
        return x;
    }

    /** Tickets 0 and 1 have their answers still far ahead. */
    static Watched waiting() {
        Watched x = new Watched();
        x.setLatency(0, 0, 15);
        x.setLatency(1, 0, 15);
        x.writeData(1, 5);
        x.issueRead(0, 1, 0, 2);
        x.issueWrite(1, 1, 8, 1);
        x.step(3);
        return x;
    }

    /** Every script entry is another one, and values wait in both W queues: what of them changes will show. */
    static Watched dress(Watched x) {
        for (int i = 0; i < 12; i++) {
            x.setLatency(i % 3, i / 3, 2 + i);
        }
        for (int i = 0; i < 8; i++) {
            x.writeData(0, 800 + i);
            x.writeData(1, 820 + i);
        }
        return x;
    }

    /** Many tickets have come and gone, nothing is under way. */
    static Watched worn() {
        Watched x = new Watched(3, 2);
        for (int i = 0; i < 71; i++) {
            x.quick(i % 3 == 0, i % 2, i % 4, 5 * i % 32);
        }
        return x;
    }

    /** T is 32, and ticket 0 is in the state that is asked for; all others but those that hold it are DONE. */
    static Watched ticketZero(int state, boolean write) {
        Watched x = new Watched(8, state == IdInterconnect.ST_QUEUED ? 1 : 4);
        switch (state) {
            case IdInterconnect.ST_QUEUED -> queueZero(x, write);
            case IdInterconnect.ST_ACTIVE -> activateZero(x, write);
            case IdInterconnect.ST_OKAY -> x.quick(write, 0, 0, 0);
            default -> x.quick(write, 0, 0, 24);
        }
        x.giveTickets(32, 1, 1, 8);
        return x;
    }

    /** Under a cap of 1, a write without data takes subordinate 0 for good. */
    private static void queueZero(Watched x, boolean write) {
        if (write) {
            // Manager 0 has the priority.
            x.issueWrite(1, 0, 0, 1);
            x.issueWrite(0, 0, 0, 1);
        } else {
            // AW goes before AR.
            x.issueRead(0, 0, 0, 1);
            x.issueWrite(1, 0, 0, 1);
        }
        x.step(1);
    }

    private static void activateZero(Watched x, boolean write) {
        x.setReady(0, true, false);
        x.issue(write, 0, 0, 0, 1);
        x.step(1);
    }
}
