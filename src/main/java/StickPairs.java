import java.util.Arrays;

/**
 * Odd pairs of memory sticks that are run wide as far as they match.
 *
 * <p>All rows are made by the constructor and used again, so that no call but the constructor makes
 * an object (an exception apart).
 */
public final class StickPairs {

    /** There is nothing to return. */
    public static final int NONE = -1;

    private static final int SLOTS = 4;
    private static final int MOST_SIZE = 12;
    private static final int MOST_RANKS = 2;
    private static final int MOST_DELAY = 9;
    private static final int MOST_BLOCKS = SLOTS * MOST_SIZE;
    private static final int MOST_VALUE = 99;
    private static final int MOST_REST = 99;
    private static final int MOST_CODES = 60;
    // A part takes two characters at least, with its comma.
    private static final int MOST_PARTS = MOST_CODES / 2;
    private static final int MOST_SAVED = 6;

    private static final int MAPS = 3;
    private static final int MIRRORED = 2;
    private static final int WIDE = 0;

    private static final int SETTINGS = 2;
    private static final int MAP_SETTING = 0;
    private static final int PAIR_SETTING = 1;

    private static final int SLOT_NUMBERS = 8;
    private static final int BLOCK_NUMBERS = 7;
    private static final int COUNTS = 12;

    private static final int NO_GOOD_STICK = 1;
    private static final int NO_MIRROR = 2;

    private static final long HASH_START = 3691L;

    private final State now;
    private final State snapshot;
    private boolean hasSnapshot;
    private final State[] saved;
    private int savedCount;
    private final Text text;
    private final Layout trialLayout;
    private final Clock trialClock;

    public StickPairs() {
        now = new State();
        snapshot = new State();
        saved = new State[MOST_SAVED];
        for (int i = 0; i < MOST_SAVED; i++) {
            saved[i] = new State();
        }
        text = new Text();
        trialLayout = new Layout();
        trialClock = new Clock();
    }

    // ---- sticks

    public int plug(int slot, int size, int ranks, int delay)
            throws IndexOutOfBoundsException, IllegalArgumentException, IllegalStateException {
        if (!isSlot(slot)) {
            throw new IndexOutOfBoundsException("no such slot");
        }
        if (!isWithin(size, 1, MOST_SIZE) || !isWithin(ranks, 1, MOST_RANKS)
                || !isWithin(delay, 1, MOST_DELAY)) {
            throw new IllegalArgumentException("no such stick");
        }
        if (now.sticks.isPlugged(slot)) {
            throw new IllegalStateException("there is a stick in the slot");
        }
        saveState();
        now.sticks.put(slot, size, ranks, delay);
        now.clock.freeSlot(slot);
        return now.sticks.pluggedOnes();
    }

    public int pull(int slot) throws IndexOutOfBoundsException, IllegalStateException {
        if (!isSlot(slot)) {
            throw new IndexOutOfBoundsException("no such slot");
        }
        if (!now.sticks.isPlugged(slot)) {
            throw new IllegalStateException("there is no stick in the slot");
        }
        saveState();
        int used = now.usedPlaces(slot);
        now.sticks.take(slot);
        return used;
    }

    public int fail(int slot) throws IndexOutOfBoundsException, IllegalStateException {
        if (!isSlot(slot)) {
            throw new IndexOutOfBoundsException("no such slot");
        }
        if (!now.sticks.isGood(slot)) {
            throw new IllegalStateException("there is no stick that could fail");
        }
        saveState();
        int used = now.usedPlaces(slot);
        now.sticks.spoil(slot);
        return used;
    }

    // ---- the machine

    public int start() throws IllegalStateException {
        if (now.sticks.hindrance(now.mapSetting) != 0) {
            throw new IllegalStateException("the machine does not start");
        }
        saveState();
        now.begin();
        return now.layout.blocks;
    }

    public int stop() throws IllegalStateException {
        if (!now.layout.isLaid()) {
            throw new IllegalStateException("the machine has not started");
        }
        saveState();
        int blocks = now.layout.blocks;
        now.end();
        return blocks;
    }

    public int write(int block, int value)
            throws IndexOutOfBoundsException, IllegalArgumentException, IllegalStateException {
        if (!now.hasBlock(block)) {
            throw new IndexOutOfBoundsException("no such block in the map");
        }
        if (!isWithin(value, 0, MOST_VALUE)) {
            throw new IllegalArgumentException("no such value");
        }
        if (!now.canRead(block)) {
            throw new IllegalStateException("no stick is left for the block");
        }
        saveState();
        return now.exchange(block, value);
    }

    public int read(int block) throws IndexOutOfBoundsException, IllegalStateException {
        if (!now.hasBlock(block)) {
            throw new IndexOutOfBoundsException("no such block in the map");
        }
        if (!now.canRead(block)) {
            throw new IllegalStateException("no stick is left for the block");
        }
        saveState();
        return now.readOne(block);
    }

    public int rest(int ticks) throws IllegalArgumentException {
        if (!isWithin(ticks, 1, MOST_REST)) {
            throw new IllegalArgumentException("ticks out of range");
        }
        saveState();
        now.clock.pass(ticks);
        return now.clock.tick;
    }

    public int set(int setting, int value)
            throws IndexOutOfBoundsException, IllegalArgumentException {
        if (!isWithin(setting, 0, SETTINGS - 1)) {
            throw new IndexOutOfBoundsException("no such setting");
        }
        if (!isWithin(value, 0, setting == MAP_SETTING ? MAPS - 1 : 1)) {
            throw new IllegalArgumentException("no such value of the setting");
        }
        saveState();
        return now.exchangeSetting(setting, value);
    }

    // ---- texts, the snapshot

    public int append(int code) throws IllegalArgumentException, IllegalStateException {
        if (!isWithin(code, 33, 126)) {
            throw new IllegalArgumentException("no such character");
        }
        if (text.isFull()) {
            throw new IllegalStateException("the buffer is full");
        }
        text.add(code);
        return text.length;
    }

    public int clearBuffer() {
        int length = text.length;
        text.empty();
        return length;
    }

    public int firstError() {
        return text.scan();
    }

    public int run() throws IllegalArgumentException {
        if (!text.tellsReadings()) {
            throw new IllegalArgumentException("the buffer tells no readings");
        }
        saveState();
        int sum = now.readAll(text);
        text.empty();
        return sum;
    }

    public int keep() {
        snapshot.copyFrom(now);
        hasSnapshot = true;
        return now.clock.tick;
    }

    public int goBack() throws IllegalStateException {
        if (!hasSnapshot) {
            throw new IllegalStateException("there is no snapshot");
        }
        saveState();
        now.copyFrom(snapshot);
        return now.clock.tick;
    }

    public int undo() throws IllegalStateException {
        if (savedCount < 1 || savedCount > MOST_SAVED) {
            throw new IllegalStateException("there is no saved state");
        }
        savedCount--;
        State latest = saved[savedCount];
        if (latest != null) {
            now.copyFrom(latest);
        }
        return savedCount;
    }

    // ---- looks; nothing is changed

    public int slot(int slot, int what) throws IndexOutOfBoundsException, IllegalArgumentException {
        if (!isSlot(slot)) {
            throw new IndexOutOfBoundsException("no such slot");
        }
        if (!isWithin(what, 0, SLOT_NUMBERS - 1)) {
            throw new IllegalArgumentException("no such number of a slot");
        }
        return now.slotNumber(slot, what);
    }

    public int where(int block, int what)
            throws IndexOutOfBoundsException, IllegalArgumentException {
        if (!now.hasBlock(block)) {
            throw new IndexOutOfBoundsException("no such block in the map");
        }
        if (!isWithin(what, 0, BLOCK_NUMBERS - 1)) {
            throw new IllegalArgumentException("no such number of a block");
        }
        return now.blockNumber(block, what);
    }

    public int lies(int slot, int number) throws IndexOutOfBoundsException {
        if (!isSlot(slot) || !isWithin(number, 0, MOST_SIZE - 1)) {
            throw new IndexOutOfBoundsException("no such slot or number");
        }
        return now.layout.blockAt(slot, number);
    }

    public int count(int what) throws IllegalArgumentException {
        if (!isWithin(what, 0, COUNTS - 1)) {
            throw new IllegalArgumentException("no such count");
        }
        return countOf(what);
    }

    public int setting(int setting) throws IndexOutOfBoundsException {
        if (!isWithin(setting, 0, SETTINGS - 1)) {
            throw new IndexOutOfBoundsException("no such setting");
        }
        return now.settingOf(setting);
    }

    public int why() {
        return now.sticks.hindrance(now.mapSetting);
    }

    // ---- what would be; nothing is changed

    public int sweep(int map) throws IllegalArgumentException {
        if (!isWithin(map, 0, MAPS - 1)) {
            throw new IllegalArgumentException("no such map");
        }
        return sweepTicks(map);
    }

    public int ifStarted(int map, int what) throws IllegalArgumentException {
        if (!isWithin(map, 0, MAPS - 1) || !isWithin(what, 0, 1)) {
            throw new IllegalArgumentException("no such map or number");
        }
        return blocksIfStarted(map, what);
    }

    public int bestChange() {
        int best = NONE;
        int most = now.sticks.wideIfChanged(0, 0);
        for (int lesser = 0; lesser < SLOTS; lesser++) {
            for (int greater = lesser + 1; greater < SLOTS; greater++) {
                int wide = now.sticks.wideIfChanged(lesser, greater);
                if (wide > most) {
                    most = wide;
                    best = SLOTS * lesser + greater;
                }
            }
        }
        return best;
    }

    public double wideShare() {
        int blocks = now.layout.blocks;
        return blocks == 0 ? 0.0 : (double) now.layout.wide / blocks;
    }

    public float meanTicks() {
        int blocksRead = now.blocksRead;
        return blocksRead == 0 ? 0.0f : (float) now.clock.tick / blocksRead;
    }

    public long digest() {
        long hash = HASH_START;
        for (int what = 0; what < COUNTS; what++) {
            hash = 31L * hash + countOf(what);
        }
        for (int setting = 0; setting < SETTINGS; setting++) {
            hash = 31L * hash + now.settingOf(setting);
        }
        hash = foldSlots(hash);
        hash = foldBlocks(hash);
        hash = foldTrials(hash);
        hash = 31L * hash + doubleBits(wideShare());
        hash = 31L * hash + floatBits(meanTicks());
        hash = 31L * hash + (hasSnapshot ? 1 : 0);
        return text.fold(hash);
    }

    // ---- parts of the face's calls

    private static boolean isWithin(int number, int least, int most) {
        return number >= least && number <= most;
    }

    private static boolean isSlot(int slot) {
        return slot >= 0 && slot < SLOTS;
    }

    private static int entry(int[] row, int index) {
        return index >= 0 && index < row.length ? row[index] : 0;
    }

    private void saveState() {
        if (savedCount < 0 || savedCount >= MOST_SAVED) {
            moveOldestToEnd();
            savedCount = MOST_SAVED - 1;
        }
        State next = saved[savedCount];
        if (next != null) {
            next.copyFrom(now);
        }
        savedCount++;
    }

    private void moveOldestToEnd() {
        State oldest = saved[0];
        for (int i = 1; i < MOST_SAVED; i++) {
            saved[i - 1] = saved[i];
        }
        saved[MOST_SAVED - 1] = oldest;
    }

    private int countOf(int what) {
        switch (what) {
            case 0:
                return now.sticks.pluggedOnes();
            case 1:
                return now.sticks.failedOnes();
            case 2:
                return now.layout.blocks;
            case 3:
                return now.layout.wide;
            case 4:
                return now.clock.tick;
            case 5:
                return now.blocksRead;
            case 6:
                return now.pairsRead;
            case 7:
                return now.clock.waited;
            case 8:
                return now.lostBlocks();
            case 9:
                return now.starts;
            case 10:
                return now.sumOfValues();
            default:
                return savedCount;
        }
    }

    private int sweepTicks(int map) {
        if (now.sticks.hindrance(map) != 0) {
            return NONE;
        }
        trialLayout.lay(map, now.sticks);
        // The machine sets all ranks free as it starts, so a sweep takes as long from the tick 0 on.
        trialClock.reset();
        int step = 1;
        for (int block = 0; block < trialLayout.blocks; block += step) {
            int rank = trialRank(block);
            if (trialLayout.beginsPair(block)) {
                int other = trialRank(block + 1);
                trialClock.readPair(rank, trialDelay(block), other, trialDelay(block + 1));
                step = 2;
            } else {
                trialClock.readSingle(rank, trialDelay(block));
                step = 1;
            }
        }
        return trialClock.tick;
    }

    private int trialRank(int block) {
        return now.sticks.rankRow(trialLayout.slotOf(block), trialLayout.numberOf(block));
    }

    private int trialDelay(int block) {
        return now.sticks.delayIn(trialLayout.slotOf(block));
    }

    private int blocksIfStarted(int map, int what) {
        if (now.sticks.hindrance(map) != 0) {
            return 0;
        }
        trialLayout.lay(map, now.sticks);
        return what == 0 ? trialLayout.blocks : trialLayout.wide;
    }

    private long foldSlots(long start) {
        long hash = start;
        for (int slot = 0; slot < SLOTS; slot++) {
            for (int what = 0; what < SLOT_NUMBERS; what++) {
                hash = 31L * hash + now.slotNumber(slot, what);
            }
            for (int number = 0; number < MOST_SIZE; number++) {
                hash = 31L * hash + now.layout.blockAt(slot, number);
            }
        }
        return hash;
    }

    private long foldBlocks(long start) {
        long hash = start;
        for (int block = 0; block < now.layout.blocks; block++) {
            for (int what = 0; what < BLOCK_NUMBERS; what++) {
                hash = 31L * hash + now.blockNumber(block, what);
            }
            hash = 31L * hash + (now.canRead(block) ? now.heldBy(block) : NONE);
        }
        return hash;
    }

    private long foldTrials(long start) {
        long hash = 31L * start + why();
        for (int map = 0; map < MAPS; map++) {
            hash = 31L * hash + sweepTicks(map);
        }
        for (int map = 0; map < MAPS; map++) {
            hash = 31L * hash + blocksIfStarted(map, 0);
            hash = 31L * hash + blocksIfStarted(map, 1);
        }
        return 31L * hash + bestChange();
    }

    // LANGUAGE.md leaves no Double.doubleToLongBits; for a share, 0 to 1, this answers the same.
    private static long doubleBits(double share) {
        return bits(share, 1023, 52, 4503599627370496.0);
    }

    // As Float.floatToIntBits for what meanTicks can be: every such float is exact as a double.
    private static long floatBits(float mean) {
        return bits(mean, 127, 23, 8388608.0);
    }

    // Doubling and halving are exact for the numbers here, so no bit is lost on the way.
    private static long bits(double number, int bias, int width, double scale) {
        if (!(number > 0.0)) {
            return 0L;
        }
        double fraction = number;
        int exponent = bias;
        while (fraction < 1.0 && exponent > 1) {
            fraction *= 2.0;
            exponent--;
        }
        while (fraction >= 2.0 && exponent < 2 * bias) {
            fraction /= 2.0;
            exponent++;
        }
        return ((long) exponent << width) + (long) ((fraction - 1.0) * scale);
    }

    /** The sticks in the slots, with what is theirs alone. */
    private static final class Sticks {
        // A size of 0 stands for no stick.
        private final int[] sizes = new int[SLOTS];
        private final int[] ranks = new int[SLOTS];
        private final int[] delays = new int[SLOTS];
        private final int[] reads = new int[SLOTS];
        private final boolean[] failed = new boolean[SLOTS];
        // A stick that failed since the start is still mapped; one that took a pulled one's slot is not.
        private final boolean[] mapped = new boolean[SLOTS];

        void copyFrom(Sticks other) {
            for (int slot = 0; slot < SLOTS; slot++) {
                sizes[slot] = other.sizes[slot];
                ranks[slot] = other.ranks[slot];
                delays[slot] = other.delays[slot];
                reads[slot] = other.reads[slot];
                failed[slot] = other.failed[slot];
                mapped[slot] = other.mapped[slot];
            }
        }

        void put(int slot, int size, int rankCount, int delay) {
            if (isSlot(slot)) {
                sizes[slot] = size;
                ranks[slot] = rankCount;
                delays[slot] = delay;
                reads[slot] = 0;
                failed[slot] = false;
                mapped[slot] = false;
            }
        }

        void take(int slot) {
            put(slot, 0, 0, 0);
        }

        void spoil(int slot) {
            if (isSlot(slot)) {
                failed[slot] = true;
            }
        }

        void tellRead(int slot) {
            if (isSlot(slot)) {
                reads[slot]++;
            }
        }

        void mapGoodOnes() {
            for (int slot = 0; slot < SLOTS; slot++) {
                mapped[slot] = isGood(slot);
            }
        }

        void unmapAll() {
            for (int slot = 0; slot < SLOTS; slot++) {
                mapped[slot] = false;
            }
        }

        boolean isPlugged(int slot) {
            return entry(sizes, slot) > 0;
        }

        boolean hasFailed(int slot) {
            return isSlot(slot) && failed[slot];
        }

        boolean isMapped(int slot) {
            return isSlot(slot) && mapped[slot];
        }

        boolean isGood(int slot) {
            return isSlot(slot) && sizes[slot] > 0 && !failed[slot];
        }

        boolean isLeft(int slot) {
            return isSlot(slot) && mapped[slot] && !failed[slot];
        }

        int pluggedOnes() {
            int sum = 0;
            for (int slot = 0; slot < SLOTS; slot++) {
                sum += isPlugged(slot) ? 1 : 0;
            }
            return sum;
        }

        int failedOnes() {
            int sum = 0;
            for (int slot = 0; slot < SLOTS; slot++) {
                sum += hasFailed(slot) ? 1 : 0;
            }
            return sum;
        }

        int sizeIn(int slot) {
            return entry(sizes, slot);
        }

        int ranksIn(int slot) {
            return entry(ranks, slot);
        }

        int delayIn(int slot) {
            return entry(delays, slot);
        }

        int readsIn(int slot) {
            return entry(reads, slot);
        }

        int goodSizeIn(int slot) {
            return isGood(slot) ? entry(sizes, slot) : 0;
        }

        int rankOf(int slot, int number) {
            return entry(ranks, slot) == 2 ? number & 1 : 0;
        }

        /** The rank's place in the row of a clock. */
        int rankRow(int slot, int number) {
            return MOST_RANKS * slot + rankOf(slot, number);
        }

        /** Why a machine with these sticks does not start with a map; 0 if it does. */
        int hindrance(int map) {
            int room0 = goodSizeIn(0) + goodSizeIn(1);
            int room1 = goodSizeIn(2) + goodSizeIn(3);
            if (room0 + room1 == 0) {
                return NO_GOOD_STICK;
            }
            return map == MIRRORED && (room0 == 0 || room1 == 0) ? NO_MIRROR : 0;
        }

        /** How many wide blocks there would be behind a change of what is in two slots. */
        int wideIfChanged(int one, int other) {
            int room0 = 0;
            int room1 = 0;
            for (int slot = 0; slot < SLOTS; slot++) {
                int from = slot == one ? other : slot == other ? one : slot;
                if (slot < 2) {
                    room0 += goodSizeIn(from);
                } else {
                    room1 += goodSizeIn(from);
                }
            }
            return 2 * Math.min(room0, room1);
        }
    }

    /** A map: which block lies where, by the sizes that the sticks had when it was laid. */
    private static final class Layout {
        private int kind = NONE;
        private final int[] sizes = new int[SLOTS];
        private int room0;
        private int room1;
        private int lesserRoom;
        private int blocks;
        private int wide;

        void copyFrom(Layout other) {
            kind = other.kind;
            System.arraycopy(other.sizes, 0, sizes, 0, SLOTS);
            room0 = other.room0;
            room1 = other.room1;
            lesserRoom = other.lesserRoom;
            blocks = other.blocks;
            wide = other.wide;
        }

        boolean isLaid() {
            return kind != NONE;
        }

        void lay(int map, Sticks sticks) {
            kind = map;
            for (int slot = 0; slot < SLOTS; slot++) {
                sizes[slot] = sticks.goodSizeIn(slot);
            }
            room0 = sizes[0] + sizes[1];
            room1 = sizes[2] + sizes[3];
            lesserRoom = Math.min(room0, room1);
            blocks = kind == MIRRORED ? lesserRoom : room0 + room1;
            wide = kind == WIDE ? 2 * lesserRoom : 0;
        }

        void clear() {
            kind = NONE;
            Arrays.fill(sizes, 0);
            room0 = 0;
            room1 = 0;
            lesserRoom = 0;
            blocks = 0;
            wide = 0;
        }

        boolean isWide(int block) {
            return block < wide;
        }

        boolean isMirrored() {
            return kind == MIRRORED;
        }

        boolean beginsPair(int block) {
            return isWide(block) && (block & 1) == 0;
        }

        private int channelOf(int block) {
            if (kind == MIRRORED) {
                return 0;
            }
            if (block < wide) {
                return block & 1;
            }
            if (kind == WIDE) {
                return room0 > room1 ? 0 : 1;
            }
            return block < room0 ? 0 : 1;
        }

        /** The block's number in its channel. */
        private int indexOf(int block) {
            if (block < wide) {
                return block / 2;
            }
            if (kind == WIDE) {
                return block - lesserRoom;
            }
            return kind == MIRRORED || block < room0 ? block : block - room0;
        }

        private int slotAt(int channel, int index) {
            if (channel == 0) {
                return index < sizes[0] ? 0 : 1;
            }
            return index < sizes[2] ? 2 : 3;
        }

        private int numberAt(int channel, int index) {
            int first = channel == 0 ? sizes[0] : sizes[2];
            return index < first ? index : index - first;
        }

        int slotOf(int block) {
            return slotAt(channelOf(block), indexOf(block));
        }

        int numberOf(int block) {
            return numberAt(channelOf(block), indexOf(block));
        }

        int slotAgainOf(int block) {
            return isMirrored() ? slotAt(1, block) : NONE;
        }

        int numberAgainOf(int block) {
            return isMirrored() ? numberAt(1, block) : NONE;
        }

        int blockAt(int slot, int number) {
            if (number < 0 || number >= entry(sizes, slot)) {
                return NONE;
            }
            int channel = slot < 2 ? 0 : 1;
            int index = (slot & 1) == 0 ? number : number + entry(sizes, slot - 1);
            if (isMirrored()) {
                return index < blocks ? index : NONE;
            }
            if (kind == WIDE) {
                return index < lesserRoom ? 2 * index + channel : index + lesserRoom;
            }
            return channel == 0 ? index : room0 + index;
        }

        int usedIn(int slot) {
            int used = 0;
            for (int number = 0; number < MOST_SIZE; number++) {
                used += blockAt(slot, number) == NONE ? 0 : 1;
            }
            return used;
        }
    }

    /** The tick, and from which ticks on the ranks are free. */
    private static final class Clock {
        private final int[] free = new int[SLOTS * MOST_RANKS];
        private int tick;
        private int waited;

        void copyFrom(Clock other) {
            System.arraycopy(other.free, 0, free, 0, SLOTS * MOST_RANKS);
            tick = other.tick;
            waited = other.waited;
        }

        void reset() {
            Arrays.fill(free, 0);
            tick = 0;
            waited = 0;
        }

        void freeAllNow() {
            Arrays.fill(free, tick);
        }

        void freeSlot(int slot) {
            if (isSlot(slot)) {
                free[MOST_RANKS * slot] = 0;
                free[MOST_RANKS * slot + 1] = 0;
            }
        }

        int freeFrom(int slot, int rank) {
            return entry(free, MOST_RANKS * slot + rank);
        }

        void pass(int ticks) {
            tick += ticks;
        }

        void readSingle(int rank, int delay) {
            waitFor(rank);
            occupy(rank, delay);
            pass(1);
        }

        void readPair(int rank, int delay, int otherRank, int otherDelay) {
            waitFor(rank);
            waitFor(otherRank);
            occupy(rank, delay);
            occupy(otherRank, otherDelay);
            pass(1);
        }

        private void waitFor(int rank) {
            int from = entry(free, rank);
            if (from > tick) {
                waited += from - tick;
                tick = from;
            }
        }

        private void occupy(int rank, int delay) {
            if (rank >= 0 && rank < free.length) {
                free[rank] = tick + delay;
            }
        }
    }

    /** All that undo and a snapshot restore. */
    private static final class State {
        private final Sticks sticks = new Sticks();
        private final Layout layout = new Layout();
        private final Clock clock = new Clock();
        // One value a block is enough: both places of a mirrored one are written together, and a
        // place that holds nothing any more never comes back but by a start.
        private final int[] values = new int[MOST_BLOCKS];
        private int mapSetting = 0;
        private int pairSetting = 1;
        private int blocksRead;
        private int pairsRead;
        private int starts;

        void copyFrom(State other) {
            sticks.copyFrom(other.sticks);
            layout.copyFrom(other.layout);
            clock.copyFrom(other.clock);
            System.arraycopy(other.values, 0, values, 0, MOST_BLOCKS);
            mapSetting = other.mapSetting;
            pairSetting = other.pairSetting;
            blocksRead = other.blocksRead;
            pairsRead = other.pairsRead;
            starts = other.starts;
        }

        void begin() {
            layout.lay(mapSetting, sticks);
            sticks.mapGoodOnes();
            clock.freeAllNow();
            Arrays.fill(values, 0);
            starts++;
        }

        void end() {
            layout.clear();
            sticks.unmapAll();
        }

        int settingOf(int setting) {
            return setting == PAIR_SETTING ? pairSetting : mapSetting;
        }

        int exchangeSetting(int setting, int value) {
            int previous = settingOf(setting);
            if (setting == PAIR_SETTING) {
                pairSetting = value;
            } else {
                mapSetting = value;
            }
            return previous;
        }

        int usedPlaces(int slot) {
            return sticks.isLeft(slot) ? layout.usedIn(slot) : 0;
        }

        boolean hasBlock(int block) {
            return block >= 0 && block < layout.blocks;
        }

        boolean canRead(int block) {
            return hasBlock(block) && readSlotOf(block) != NONE;
        }

        int heldBy(int block) {
            return entry(values, block);
        }

        int exchange(int block, int value) {
            int held = heldBy(block);
            if (block >= 0 && block < values.length) {
                values[block] = value;
            }
            return held;
        }

        private int readSlotOf(int block) {
            int slot = layout.slotOf(block);
            if (sticks.isLeft(slot)) {
                return slot;
            }
            int again = layout.slotAgainOf(block);
            return sticks.isLeft(again) ? again : NONE;
        }

        private int readRankOf(int block) {
            int slot = readSlotOf(block);
            boolean again = slot != layout.slotOf(block);
            int number = again ? layout.numberAgainOf(block) : layout.numberOf(block);
            return sticks.rankRow(slot, number);
        }

        int readOne(int block) {
            int slot = readSlotOf(block);
            clock.readSingle(readRankOf(block), sticks.delayIn(slot));
            sticks.tellRead(slot);
            blocksRead++;
            return heldBy(block);
        }

        private int readTwo(int block) {
            int slot = readSlotOf(block);
            int other = readSlotOf(block + 1);
            clock.readPair(readRankOf(block), sticks.delayIn(slot),
                    readRankOf(block + 1), sticks.delayIn(other));
            sticks.tellRead(slot);
            sticks.tellRead(other);
            blocksRead += 2;
            pairsRead++;
            return heldBy(block) + heldBy(block + 1);
        }

        /** Reads what a text tells, up to the first block that can not be read. */
        int readAll(Text text) {
            int sum = 0;
            for (int part = 0; part <= text.part; part++) {
                int last = text.lastOf(part);
                int step = 1;
                for (int block = text.firstOf(part); block <= last; block += step) {
                    if (!canRead(block)) {
                        return sum;
                    }
                    boolean pair = readsPair(block, last);
                    sum += pair ? readTwo(block) : readOne(block);
                    step = pair ? 2 : 1;
                }
            }
            return sum;
        }

        private boolean readsPair(int block, int last) {
            return pairSetting == 1 && layout.beginsPair(block) && block < last
                    && canRead(block + 1);
        }

        int slotNumber(int slot, int what) {
            if (!sticks.isPlugged(slot)) {
                return NONE;
            }
            switch (what) {
                case 0:
                    return sticks.sizeIn(slot);
                case 1:
                    return sticks.ranksIn(slot);
                case 2:
                    return sticks.delayIn(slot);
                case 3:
                    return sticks.hasFailed(slot) ? 1 : 0;
                case 4:
                    return sticks.isMapped(slot) ? 1 : 0;
                case 5:
                    return clock.freeFrom(slot, 0);
                case 6:
                    return sticks.ranksIn(slot) == 2 ? clock.freeFrom(slot, 1) : NONE;
                default:
                    return sticks.readsIn(slot);
            }
        }

        int blockNumber(int block, int what) {
            switch (what) {
                case 0:
                    return layout.slotOf(block);
                case 1:
                    return layout.numberOf(block);
                case 2:
                    return rankOrNone(layout.slotOf(block), layout.numberOf(block));
                case 3:
                    return layout.isMirrored() ? 2 : layout.isWide(block) ? 1 : 0;
                case 4:
                    return layout.slotAgainOf(block);
                case 5:
                    return layout.numberAgainOf(block);
                default:
                    return canRead(block) ? 1 : 0;
            }
        }

        private int rankOrNone(int slot, int number) {
            return sticks.isMapped(slot) ? sticks.rankOf(slot, number) : NONE;
        }

        int lostBlocks() {
            int lost = 0;
            for (int block = 0; block < layout.blocks; block++) {
                lost += canRead(block) ? 0 : 1;
            }
            return lost;
        }

        int sumOfValues() {
            int sum = 0;
            for (int block = 0; block < layout.blocks; block++) {
                sum += canRead(block) ? heldBy(block) : 0;
            }
            return sum;
        }
    }

    /** The buffer, and the parts that were found when it was scanned last. */
    private static final class Text {
        private final int[] codes = new int[MOST_CODES];
        private int length;
        private final int[] firsts = new int[MOST_PARTS];
        private final int[] lasts = new int[MOST_PARTS];
        private int part;
        private boolean ranged;
        private int number;

        boolean isFull() {
            return length >= MOST_CODES;
        }

        void add(int code) {
            if (length >= 0 && length < MOST_CODES) {
                codes[length] = code;
                length++;
            }
        }

        void empty() {
            length = 0;
        }

        /** The index of the first syntax error; the length if there is none. */
        int scan() {
            part = 0;
            ranged = false;
            number = NONE;
            for (int i = 0; i < length; i++) {
                if (!accepts(entry(codes, i))) {
                    return i;
                }
            }
            return length;
        }

        private boolean accepts(int code) {
            if (code >= '0' && code <= '9') {
                return acceptsDigit(code - '0');
            }
            if (number == NONE) {
                return false;
            }
            if (code == ',') {
                part++;
                ranged = false;
            } else if (code == '-' && !ranged) {
                ranged = true;
            } else {
                return false;
            }
            number = NONE;
            return true;
        }

        private boolean acceptsDigit(int digit) {
            int longer = number == NONE ? digit : 10 * number + digit;
            if (number == 0 || longer >= MOST_BLOCKS || part < 0 || part >= MOST_PARTS) {
                return false;
            }
            number = longer;
            if (!ranged) {
                firsts[part] = number;
            }
            lasts[part] = number;
            return true;
        }

        boolean tellsReadings() {
            if (scan() < length || number == NONE) {
                return false;
            }
            for (int i = 0; i <= part; i++) {
                if (lastOf(i) < firstOf(i)) {
                    return false;
                }
            }
            return true;
        }

        int firstOf(int index) {
            return entry(firsts, index);
        }

        int lastOf(int index) {
            return entry(lasts, index);
        }

        long fold(long start) {
            long hash = 31L * start + length;
            for (int i = 0; i < length; i++) {
                hash = 31L * hash + entry(codes, i);
            }
            return hash;
        }
    }
}
