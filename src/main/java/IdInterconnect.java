/** A cycle-stepped interconnect that joins two managers to memories by tagged split transactions. */
public final class IdInterconnect {
    public static final int ST_NONE = -1;
    public static final int ST_QUEUED = 0;
    public static final int ST_ACTIVE = 1;
    public static final int ST_OKAY = 2;
    public static final int ST_DECERR = 3;
    public static final int ERR_ARG = -1;
    public static final int ERR_FULL = -2;
    public static final int ERR_SLOT = -3;
    public static final int MAX_STEPS = 64;

    private static final int MANAGERS = 2;
    private static final int SUBORDINATES = 4;
    private static final int ERROR_SUBORDINATE = 3;
    private static final int IDS = 4;
    private static final int ADDRESSES = 32;
    private static final int WORDS = 24;
    private static final int WORDS_PER_SUBORDINATE = 8;
    private static final int MAX_LEN = 4;
    private static final int MAX_LIMIT = 8;
    private static final int MAX_CAP = 4;
    private static final int MAX_LATENCY = 15;
    private static final int SCRIPT_LENGTH = 4;
    private static final int SCRIPT_ENTRIES = 12;
    private static final int QUEUE_LENGTH = 4;
    private static final int QUEUE_ENTRIES = 16;
    private static final int W_QUEUE_LENGTH = 8;
    private static final int W_QUEUE_ENTRIES = 16;
    private static final int SLOTS = 32;
    private static final int SLOT_VALUES = 128;
    private static final int NO_SLOT = -1;

    // A channel is manager * KINDS + kind; a port is subordinate * KINDS + kind.
    private static final int READ = 0;
    private static final int WRITE = 1;
    private static final int KINDS = 2;
    private static final int CHANNELS = 4;
    private static final int PORTS = 8;

    private final int limit;
    private final int cap;

    // Longs, so that comparing cycles and tickets stays right when the ints that are answered wrap around.
    private long cycles = 0;
    private long tickets = 0;
    private int completions = 0;

    // Ticket t lives in slot t % SLOTS: a slot is given anew only when its last transaction is DONE.
    private final int[] slotState = new int[SLOTS];
    private final int[] slotChannel = new int[SLOTS];
    private final int[] slotId = new int[SLOTS];
    private final int[] slotAddress = new int[SLOTS];
    private final int[] slotSubordinate = new int[SLOTS];
    private final int[] slotLen = new int[SLOTS];
    private final int[] slotBeats = new int[SLOTS];
    private final int[] slotLatency = new int[SLOTS];
    private final long[] slotReadyCycle = new long[SLOTS];
    private final int[] slotDoneOrder = new int[SLOTS];
    private final int[] slotDoneCycle = new int[SLOTS];
    private final int[] slotValues = new int[SLOT_VALUES];

    private final int[] queue = new int[QUEUE_ENTRIES];
    private final int[] queueHead = new int[CHANNELS];
    private final int[] queueSize = new int[CHANNELS];
    private final int[] wQueue = new int[W_QUEUE_ENTRIES];
    private final int[] wHead = new int[MANAGERS];
    private final int[] wSize = new int[MANAGERS];

    private final int[] words = new int[WORDS];
    private final int[] script = new int[SCRIPT_ENTRIES];
    private final int[] scriptPosition = new int[SUBORDINATES];
    private final int[] activeOfManager = new int[MANAGERS];
    private final int[] activeAtSubordinate = new int[SUBORDINATES];
    private final int[] nextId = new int[CHANNELS];
    private final boolean[] channelReady = new boolean[CHANNELS];
    private final int[] priority = new int[PORTS];

    public IdInterconnect(int limit, int cap) {
        this.limit = clamp(limit, MAX_LIMIT);
        this.cap = clamp(cap, MAX_CAP);
        for (int i = 0; i < SLOTS; i++) {
            slotState[i] = ST_NONE;
        }
        for (int i = 0; i < SCRIPT_ENTRIES; i++) {
            script[i] = 1;
        }
        for (int i = 0; i < CHANNELS; i++) {
            channelReady[i] = true;
        }
    }

    public int issueRead(int m, int id, int addr, int len) {
        return issue(READ, m, id, addr, len);
    }

    public int issueWrite(int m, int id, int addr, int len) {
        return issue(WRITE, m, id, addr, len);
    }

    public boolean writeData(int m, int value) {
        if (!isManager(m) || wSize[m] == W_QUEUE_LENGTH) {
            return false;
        }
        int place = (wHead[m] + wSize[m]) % W_QUEUE_LENGTH;
        wQueue[m * W_QUEUE_LENGTH + place] = value;
        wSize[m]++;
        return true;
    }

    public boolean setLatency(int s, int idx, int lat) {
        if (s < 0 || s >= ERROR_SUBORDINATE || idx < 0 || idx >= SCRIPT_LENGTH) {
            return false;
        }
        if (lat < 1 || lat > MAX_LATENCY) {
            return false;
        }
        script[s * SCRIPT_LENGTH + idx] = lat;
        return true;
    }

    public boolean setReady(int m, boolean b, boolean r) {
        if (!isManager(m)) {
            return false;
        }
        channelReady[m * KINDS + WRITE] = b;
        channelReady[m * KINDS + READ] = r;
        return true;
    }

    public boolean step(int n) {
        if (n < 1 || n > MAX_STEPS) {
            return false;
        }
        for (int i = 0; i < n; i++) {
            runCycle();
        }
        return true;
    }

    public int cycle() {
        return (int) cycles;
    }

    public int status(int t) {
        return isValid(t) ? slotState[slotOf(t)] : ST_NONE;
    }

    public int beats(int t) {
        return isValid(t) ? slotBeats[slotOf(t)] : -1;
    }

    public int readData(int t, int i) {
        if (!isValid(t)) {
            return 0;
        }
        int slot = slotOf(t);
        if (kindOf(slot) != READ || i < 0 || i >= slotBeats[slot]) {
            return 0;
        }
        return slotValues[slot * MAX_LEN + i];
    }

    public int doneOrder(int t) {
        if (!isValid(t)) {
            return -1;
        }
        int slot = slotOf(t);
        return isPending(slot) ? -1 : slotDoneOrder[slot];
    }

    public int doneCycle(int t) {
        if (!isValid(t)) {
            return -1;
        }
        int slot = slotOf(t);
        return isPending(slot) ? -1 : slotDoneCycle[slot];
    }

    public int outstanding(int m) {
        return isManager(m) ? activeOfManager[m] : -1;
    }

    public int subLoad(int s) {
        return s >= 0 && s < SUBORDINATES ? activeAtSubordinate[s] : -1;
    }

    public int pendingData(int m) {
        return isManager(m) ? wSize[m] : -1;
    }

    public int memory(int a) {
        return a >= 0 && a < WORDS ? words[a] : 0;
    }

    private static int clamp(int value, int most) {
        if (value < 1) {
            return 1;
        }
        return value > most ? most : value;
    }

    private static boolean isManager(int m) {
        return m >= 0 && m < MANAGERS;
    }

    private static boolean isBurst(int id, int addr, int len) {
        return id >= 0 && id < IDS
            && addr >= 0 && addr < ADDRESSES
            && len >= 1 && len <= MAX_LEN
            && addr % WORDS_PER_SUBORDINATE + len <= WORDS_PER_SUBORDINATE;
    }

    private boolean isValid(int t) {
        return t >= 0 && t < tickets && t >= tickets - SLOTS;
    }

    private static int slotOf(long ticket) {
        return (int) (ticket & (SLOTS - 1));
    }

    private int kindOf(int slot) {
        return slotChannel[slot] % KINDS;
    }

    private int managerOf(int slot) {
        return slotChannel[slot] / KINDS;
    }

    private boolean isPending(int slot) {
        return slotState[slot] == ST_QUEUED || slotState[slot] == ST_ACTIVE;
    }

    private int issue(int kind, int m, int id, int addr, int len) {
        if (!isManager(m) || !isBurst(id, addr, len)) {
            return ERR_ARG;
        }
        int channel = m * KINDS + kind;
        if (queueSize[channel] == QUEUE_LENGTH) {
            return ERR_FULL;
        }
        // The slot of ticket T is that of ticket T-32.
        int slot = slotOf(tickets);
        if (isPending(slot)) {
            return ERR_SLOT;
        }
        slotState[slot] = ST_QUEUED;
        slotChannel[slot] = channel;
        slotId[slot] = id;
        slotAddress[slot] = addr;
        slotSubordinate[slot] = addr / WORDS_PER_SUBORDINATE;
        slotLen[slot] = len;
        slotBeats[slot] = 0;
        enqueue(channel, slot);
        int ticket = (int) tickets;
        tickets++;
        return ticket;
    }

    private void enqueue(int channel, int slot) {
        int place = (queueHead[channel] + queueSize[channel]) % QUEUE_LENGTH;
        queue[channel * QUEUE_LENGTH + place] = slot;
        queueSize[channel]++;
    }

    private int headOf(int channel) {
        if (queueSize[channel] == 0) {
            return NO_SLOT;
        }
        return queue[channel * QUEUE_LENGTH + queueHead[channel]];
    }

    private void dropHead(int channel) {
        queueHead[channel] = (queueHead[channel] + 1) % QUEUE_LENGTH;
        queueSize[channel]--;
    }

    private void runCycle() {
        cycles++;
        for (int m = 0; m < MANAGERS; m++) {
            giveWriteResponse(m * KINDS + WRITE);
        }
        for (int m = 0; m < MANAGERS; m++) {
            giveReadBeat(m * KINDS + READ);
        }
        for (int m = 0; m < MANAGERS; m++) {
            moveWriteData(m);
        }
        for (int s = 0; s < SUBORDINATES; s++) {
            arbitrate(s, WRITE);
            arbitrate(s, READ);
        }
    }

    private void giveWriteResponse(int channel) {
        int slot = chosenSlot(channel);
        if (slot == NO_SLOT) {
            return;
        }
        if (slotSubordinate[slot] != ERROR_SUBORDINATE) {
            storeValues(slot);
        }
        finish(slot);
        nextId[channel] = (slotId[slot] + 1) % IDS;
    }

    private void storeValues(int slot) {
        int len = slotLen[slot];
        for (int i = 0; i < len; i++) {
            words[slotAddress[slot] + i] = slotValues[slot * MAX_LEN + i];
        }
    }

    private void giveReadBeat(int channel) {
        int slot = chosenSlot(channel);
        if (slot == NO_SLOT) {
            return;
        }
        int beat = slotBeats[slot];
        boolean isError = slotSubordinate[slot] == ERROR_SUBORDINATE;
        slotValues[slot * MAX_LEN + beat] = isError ? 0 : words[slotAddress[slot] + beat];
        slotBeats[slot]++;
        if (slotBeats[slot] == slotLen[slot]) {
            finish(slot);
        }
        nextId[channel] = (slotId[slot] + 1) % IDS;
    }

    private int chosenSlot(int channel) {
        if (!channelReady[channel]) {
            return NO_SLOT;
        }
        for (int i = 0; i < IDS; i++) {
            int id = (nextId[channel] + i) % IDS;
            int slot = oldestPending(channel, id);
            if (slot != NO_SLOT && isEligible(slot)) {
                return slot;
            }
        }
        return NO_SLOT;
    }

    // Only the oldest one of an id may answer, so that one id's transactions finish in order.
    private int oldestPending(int channel, int id) {
        for (int i = 0; i < SLOTS; i++) {
            int slot = slotOf(tickets + i);
            if (slotChannel[slot] == channel && slotId[slot] == id && isPending(slot)) {
                return slot;
            }
        }
        return NO_SLOT;
    }

    private boolean isEligible(int slot) {
        // A write has no ready cycle of its own before its last value has come.
        boolean hasReadyCycle = kindOf(slot) == READ || slotBeats[slot] == slotLen[slot];
        return slotState[slot] == ST_ACTIVE && hasReadyCycle && slotReadyCycle[slot] <= cycles;
    }

    private void finish(int slot) {
        int s = slotSubordinate[slot];
        slotState[slot] = s == ERROR_SUBORDINATE ? ST_DECERR : ST_OKAY;
        slotDoneOrder[slot] = completions;
        slotDoneCycle[slot] = (int) cycles;
        completions++;
        activeOfManager[managerOf(slot)]--;
        activeAtSubordinate[s]--;
    }

    private void moveWriteData(int m) {
        int slot = oldestUnfilledWrite(m);
        if (slot == NO_SLOT || slotState[slot] != ST_ACTIVE || wSize[m] == 0) {
            return;
        }
        slotValues[slot * MAX_LEN + slotBeats[slot]] = wQueue[m * W_QUEUE_LENGTH + wHead[m]];
        wHead[m] = (wHead[m] + 1) % W_QUEUE_LENGTH;
        wSize[m]--;
        slotBeats[slot]++;
        if (slotBeats[slot] == slotLen[slot]) {
            slotReadyCycle[slot] = cycles + slotLatency[slot];
        }
    }

    private int oldestUnfilledWrite(int m) {
        int channel = m * KINDS + WRITE;
        for (int i = 0; i < SLOTS; i++) {
            int slot = slotOf(tickets + i);
            if (slotChannel[slot] == channel && slotBeats[slot] < slotLen[slot]) {
                return slot;
            }
        }
        return NO_SLOT;
    }

    private void arbitrate(int s, int kind) {
        int port = s * KINDS + kind;
        int favoured = priority[port];
        int winner = isCandidate(favoured, s, kind) ? favoured : 1 - favoured;
        if (!isCandidate(winner, s, kind)) {
            return;
        }
        int channel = winner * KINDS + kind;
        int slot = headOf(channel);
        dropHead(channel);
        accept(slot, s);
        priority[port] = 1 - winner;
    }

    private boolean isCandidate(int m, int s, int kind) {
        int head = headOf(m * KINDS + kind);
        return head != NO_SLOT
            && slotSubordinate[head] == s
            && activeOfManager[m] < limit
            && activeAtSubordinate[s] < cap
            && !isActiveElsewhere(head);
    }

    private boolean isActiveElsewhere(int head) {
        for (int i = 0; i < SLOTS; i++) {
            if (slotState[i] == ST_ACTIVE
                && slotChannel[i] == slotChannel[head]
                && slotId[i] == slotId[head]
                && slotSubordinate[i] != slotSubordinate[head]) {
                return true;
            }
        }
        return false;
    }

    private void accept(int slot, int s) {
        slotState[slot] = ST_ACTIVE;
        activeOfManager[managerOf(slot)]++;
        activeAtSubordinate[s]++;
        slotLatency[slot] = takeLatency(s);
        // A write's ready cycle is set anew when its last value has come.
        slotReadyCycle[slot] = cycles + slotLatency[slot];
    }

    private int takeLatency(int s) {
        if (s >= ERROR_SUBORDINATE) {
            return 1;
        }
        int latency = script[s * SCRIPT_LENGTH + scriptPosition[s]];
        scriptPosition[s] = (scriptPosition[s] + 1) % SCRIPT_LENGTH;
        return latency;
    }
}
