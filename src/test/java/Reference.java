import java.util.ArrayDeque;
import java.util.ArrayList;
import java.util.Deque;
import java.util.List;
import java.util.regex.Matcher;
import java.util.regex.Pattern;

/**
 * A second StickPairs, written straight from the document and as unlike the first as can be: sticks are
 * objects that hold their own values, a map is a list of places, and a saved state is a deep copy.
 */
final class Reference {
    private static final String NUMBER = "([1-3][0-9]|4[0-7]|[0-9])";
    private static final Pattern PART = Pattern.compile(NUMBER + "(?:-" + NUMBER + ")?");
    private static final Pattern READINGS =
            Pattern.compile(PART.pattern() + "(?:," + PART.pattern() + ")*");

    private static final class Stick {
        int size;
        int ranks;
        int delay;
        boolean failed;
        boolean mapped;
        int[] free = new int[2];
        int reads;
        int[] values = new int[12];

        Stick copy() {
            Stick copy = new Stick();
            copy.size = size;
            copy.ranks = ranks;
            copy.delay = delay;
            copy.failed = failed;
            copy.mapped = mapped;
            copy.free = free.clone();
            copy.reads = reads;
            copy.values = values.clone();
            return copy;
        }

        int rank(int number) {
            return ranks == 1 ? 0 : number % 2;
        }
    }

    private static final class Place {
        final int slot;
        final int number;

        Place(int slot, int number) {
            this.slot = slot;
            this.number = number;
        }
    }

    /** kind: 0 narrow, 1 wide, 2 mirrored, as where tells it. */
    private static final class Block {
        final int kind;
        final List<Place> places = new ArrayList<>();

        Block(int kind) {
            this.kind = kind;
        }
    }

    private static final class Machine {
        Stick[] sticks = new Stick[4];
        List<Block> map = null;
        int tick;
        int blocksRead;
        int pairsRead;
        int waited;
        int starts;
        int[] settings = {0, 1};

        Machine copy() {
            Machine copy = new Machine();
            for (int s = 0; s < 4; s++) {
                copy.sticks[s] = sticks[s] == null ? null : sticks[s].copy();
            }
            copy.map = map;
            copy.tick = tick;
            copy.blocksRead = blocksRead;
            copy.pairsRead = pairsRead;
            copy.waited = waited;
            copy.starts = starts;
            copy.settings = settings.clone();
            return copy;
        }

        int blocks() {
            return map == null ? 0 : map.size();
        }

        boolean isLeft(Place place) {
            Stick stick = sticks[place.slot];
            return stick != null && stick.mapped && !stick.failed;
        }

        Place leftPlace(int block) {
            for (Place place : map.get(block).places) {
                if (isLeft(place)) {
                    return place;
                }
            }
            return null;
        }

        int value(int block) {
            Place place = leftPlace(block);
            return place == null ? -1 : sticks[place.slot].values[place.number];
        }

        /** The places of a channel in their order. */
        List<Place> channel(int c) {
            List<Place> places = new ArrayList<>();
            for (int s = 2 * c; s <= 2 * c + 1; s++) {
                for (int n = 0; sticks[s] != null && !sticks[s].failed && n < sticks[s].size; n++) {
                    places.add(new Place(s, n));
                }
            }
            return places;
        }

        int hindrance(int kind) {
            int rooms0 = channel(0).size();
            int rooms1 = channel(1).size();
            if (rooms0 == 0 && rooms1 == 0) {
                return 1;
            }
            return kind == 2 && rooms0 * rooms1 == 0 ? 2 : 0;
        }

        List<Block> newMap(int kind) {
            List<Place> a = channel(0);
            List<Place> b = channel(1);
            int m = Math.min(a.size(), b.size());
            List<Block> blocks = new ArrayList<>();
            if (kind != 1) {
                for (int i = 0; i < m; i++) {
                    Block first = new Block(kind == 0 ? 1 : 2);
                    first.places.add(a.get(i));
                    blocks.add(first);
                    Block second = kind == 0 ? new Block(1) : first;
                    second.places.add(b.get(i));
                    if (kind == 0) {
                        blocks.add(second);
                    }
                }
            }
            if (kind != 2) {
                List<Place> narrow = new ArrayList<>();
                narrow.addAll(kind == 0 ? a.subList(m, a.size()) : a);
                narrow.addAll(kind == 0 ? b.subList(m, b.size()) : b);
                for (Place place : narrow) {
                    Block block = new Block(0);
                    block.places.add(place);
                    blocks.add(block);
                }
            }
            return blocks;
        }

        void begin(int kind) {
            map = newMap(kind);
            for (Stick stick : sticks) {
                if (stick != null) {
                    stick.mapped = !stick.failed;
                    stick.free = new int[] {tick, tick};
                    stick.values = new int[12];
                }
            }
            starts++;
        }

        /** Reads blocks in the same tick, and returns the sum of their values. */
        int readTogether(int... blocks) {
            int from = tick;
            for (int block : blocks) {
                Place place = leftPlace(block);
                Stick stick = sticks[place.slot];
                from = Math.max(from, stick.free[stick.rank(place.number)]);
            }
            waited += from - tick;
            int sum = 0;
            for (int block : blocks) {
                Place place = leftPlace(block);
                Stick stick = sticks[place.slot];
                stick.free[stick.rank(place.number)] = from + stick.delay;
                stick.reads++;
                sum += stick.values[place.number];
            }
            tick = from + 1;
            blocksRead += blocks.length;
            pairsRead += blocks.length - 1;
            return sum;
        }

        boolean isPairWith(int block, int next) {
            return next == block + 1 && block % 2 == 0 && next < blocks() && map.get(block).kind == 1;
        }
    }

    private Machine now = new Machine();
    private Machine kept = null;
    private final Deque<Machine> states = new ArrayDeque<>();
    private String buffer = "";

    private void save() {
        states.addLast(now.copy());
        if (states.size() > 6) {
            states.removeFirst();
        }
    }

    private static void index(boolean holds) {
        if (!holds) {
            throw new IndexOutOfBoundsException();
        }
    }

    private static void argument(boolean holds) {
        if (!holds) {
            throw new IllegalArgumentException();
        }
    }

    private static void state(boolean holds) {
        if (!holds) {
            throw new IllegalStateException();
        }
    }

    private static boolean in(int number, int least, int most) {
        return least <= number && number <= most;
    }

    private int sticks() {
        int sum = 0;
        for (Stick stick : now.sticks) {
            sum += stick == null ? 0 : 1;
        }
        return sum;
    }

    private int used(int slot) {
        int sum = 0;
        for (int b = 0; b < now.blocks(); b++) {
            for (Place place : now.map.get(b).places) {
                sum += place.slot == slot && now.isLeft(place) ? 1 : 0;
            }
        }
        return sum;
    }

    int plug(int slot, int size, int ranks, int delay) {
        index(in(slot, 0, 3));
        argument(in(size, 1, 12) && in(ranks, 1, 2) && in(delay, 1, 9));
        state(now.sticks[slot] == null);
        save();
        Stick stick = new Stick();
        stick.size = size;
        stick.ranks = ranks;
        stick.delay = delay;
        now.sticks[slot] = stick;
        return sticks();
    }

    int pull(int slot) {
        index(in(slot, 0, 3));
        state(now.sticks[slot] != null);
        save();
        int used = used(slot);
        now.sticks[slot] = null;
        return used;
    }

    int fail(int slot) {
        index(in(slot, 0, 3));
        state(now.sticks[slot] != null && !now.sticks[slot].failed);
        save();
        int used = used(slot);
        now.sticks[slot].failed = true;
        return used;
    }

    int start() {
        state(why() == 0);
        save();
        now.begin(now.settings[0]);
        return now.blocks();
    }

    int stop() {
        state(now.map != null);
        save();
        int blocks = now.blocks();
        now.map = null;
        for (Stick stick : now.sticks) {
            if (stick != null) {
                stick.mapped = false;
            }
        }
        return blocks;
    }

    int write(int block, int value) {
        index(in(block, 0, now.blocks() - 1));
        argument(in(value, 0, 99));
        state(now.leftPlace(block) != null);
        save();
        int held = now.value(block);
        for (Place place : now.map.get(block).places) {
            if (now.isLeft(place)) {
                now.sticks[place.slot].values[place.number] = value;
            }
        }
        return held;
    }

    int read(int block) {
        index(in(block, 0, now.blocks() - 1));
        state(now.leftPlace(block) != null);
        save();
        return now.readTogether(block);
    }

    int rest(int ticks) {
        argument(in(ticks, 1, 99));
        save();
        return now.tick += ticks;
    }

    int set(int setting, int value) {
        index(in(setting, 0, 1));
        argument(in(value, 0, 2 - setting));
        save();
        int previous = now.settings[setting];
        now.settings[setting] = value;
        return previous;
    }

    int append(int code) {
        argument(in(code, 33, 126));
        state(buffer.length() < 60);
        buffer += (char) code;
        return buffer.length();
    }

    int clearBuffer() {
        int length = buffer.length();
        buffer = "";
        return length;
    }

    /** Every beginning of readings is readings, or it is with a 0 behind it. */
    int firstError() {
        for (int i = 0; i < buffer.length(); i++) {
            String head = buffer.substring(0, i + 1);
            if (!READINGS.matcher(head).matches() && !READINGS.matcher(head + "0").matches()) {
                return i;
            }
        }
        return buffer.length();
    }

    int run() {
        argument(READINGS.matcher(buffer).matches());
        List<int[]> parts = new ArrayList<>();
        for (String part : buffer.split(",")) {
            Matcher matcher = PART.matcher(part);
            argument(matcher.matches());
            int first = Integer.parseInt(matcher.group(1));
            int last = matcher.group(2) == null ? first : Integer.parseInt(matcher.group(2));
            argument(first <= last);
            parts.add(new int[] {first, last});
        }
        save();
        buffer = "";
        int sum = 0;
        for (int[] part : parts) {
            int block = part[0];
            while (block <= part[1]) {
                if (block >= now.blocks() || now.leftPlace(block) == null) {
                    return sum;
                }
                boolean pair = now.settings[1] == 1 && block + 1 <= part[1]
                        && now.isPairWith(block, block + 1) && now.leftPlace(block + 1) != null;
                if (pair) {
                    sum += now.readTogether(block, block + 1);
                    block += 2;
                } else {
                    sum += now.readTogether(block);
                    block += 1;
                }
            }
        }
        return sum;
    }

    int keep() {
        kept = now.copy();
        return now.tick;
    }

    int goBack() {
        state(kept != null);
        save();
        now = kept.copy();
        return now.tick;
    }

    int undo() {
        state(!states.isEmpty());
        now = states.removeLast();
        return states.size();
    }

    int slot(int slot, int what) {
        index(in(slot, 0, 3));
        argument(in(what, 0, 7));
        Stick stick = now.sticks[slot];
        if (stick == null || what == 6 && stick.ranks == 1) {
            return -1;
        }
        int[] numbers = {stick.size, stick.ranks, stick.delay, stick.failed ? 1 : 0, stick.mapped ? 1 : 0,
            stick.free[0], stick.free[1], stick.reads};
        return numbers[what];
    }

    int where(int block, int what) {
        index(in(block, 0, now.blocks() - 1));
        argument(in(what, 0, 6));
        Block it = now.map.get(block);
        Place place = it.places.get(0);
        Stick stick = now.sticks[place.slot];
        boolean again = it.places.size() > 1;
        int[] numbers = {place.slot, place.number, stick != null && stick.mapped ? stick.rank(place.number) : -1,
            it.kind, again ? it.places.get(1).slot : -1, again ? it.places.get(1).number : -1,
            now.leftPlace(block) == null ? 0 : 1};
        return numbers[what];
    }

    int lies(int slot, int number) {
        index(in(slot, 0, 3) && in(number, 0, 11));
        for (int b = 0; b < now.blocks(); b++) {
            for (Place place : now.map.get(b).places) {
                if (place.slot == slot && place.number == number) {
                    return b;
                }
            }
        }
        return -1;
    }

    int count(int what) {
        argument(in(what, 0, 11));
        int failed = 0;
        for (Stick stick : now.sticks) {
            failed += stick != null && stick.failed ? 1 : 0;
        }
        int wide = 0;
        int lost = 0;
        int sum = 0;
        for (int b = 0; b < now.blocks(); b++) {
            wide += now.map.get(b).kind == 1 ? 1 : 0;
            lost += now.leftPlace(b) == null ? 1 : 0;
            sum += now.leftPlace(b) == null ? 0 : now.value(b);
        }
        int[] numbers = {sticks(), failed, now.blocks(), wide, now.tick, now.blocksRead, now.pairsRead, now.waited,
            lost, now.starts, sum, states.size()};
        return numbers[what];
    }

    int setting(int setting) {
        index(in(setting, 0, 1));
        return now.settings[setting];
    }

    int why() {
        return now.hindrance(now.settings[0]);
    }

    int sweep(int map) {
        argument(in(map, 0, 2));
        if (now.hindrance(map) != 0) {
            return -1;
        }
        Machine trial = now.copy();
        trial.begin(map);
        int block = 0;
        while (block < trial.blocks()) {
            if (trial.isPairWith(block, block + 1)) {
                trial.readTogether(block, block + 1);
                block += 2;
            } else {
                trial.readTogether(block);
                block += 1;
            }
        }
        return trial.tick - now.tick;
    }

    int ifStarted(int map, int what) {
        argument(in(map, 0, 2) && in(what, 0, 1));
        return now.hindrance(map) != 0 ? 0 : blocksOf(now.newMap(map), what == 1);
    }

    private static int blocksOf(List<Block> map, boolean wideAlone) {
        int sum = 0;
        for (Block block : map) {
            sum += !wideAlone || block.kind == 1 ? 1 : 0;
        }
        return sum;
    }

    int bestChange() {
        int best = -1;
        int most = blocksOf(now.newMap(0), true);
        for (int change = 0; change < 16; change++) {
            Machine trial = now.copy();
            trial.sticks[change / 4] = now.sticks[change % 4];
            trial.sticks[change % 4] = now.sticks[change / 4];
            int wide = blocksOf(trial.newMap(0), true);
            if (change / 4 < change % 4 && wide > most) {
                most = wide;
                best = change;
            }
        }
        return best;
    }

    double wideShare() {
        return count(2) == 0 ? 0.0 : (double) count(3) / count(2);
    }

    float meanTicks() {
        return count(5) == 0 ? 0.0f : (float) count(4) / count(5);
    }

    long digest() {
        List<Long> list = new ArrayList<>();
        for (int what = 0; what <= 11; what++) {
            list.add((long) count(what));
        }
        list.add((long) setting(0));
        list.add((long) setting(1));
        for (int slot = 0; slot < 4; slot++) {
            for (int what = 0; what <= 7; what++) {
                list.add((long) slot(slot, what));
            }
            for (int number = 0; number <= 11; number++) {
                list.add((long) lies(slot, number));
            }
        }
        for (int block = 0; block < now.blocks(); block++) {
            for (int what = 0; what <= 6; what++) {
                list.add((long) where(block, what));
            }
            list.add((long) now.value(block));
        }
        list.add((long) why());
        for (int map = 0; map <= 2; map++) {
            list.add((long) sweep(map));
        }
        for (int map = 0; map <= 2; map++) {
            list.add((long) ifStarted(map, 0));
            list.add((long) ifStarted(map, 1));
        }
        list.add((long) bestChange());
        list.add(Double.doubleToLongBits(wideShare()));
        list.add((long) Float.floatToIntBits(meanTicks()));
        list.add(kept == null ? 0L : 1L);
        list.add((long) buffer.length());
        for (char c : buffer.toCharArray()) {
            list.add((long) c);
        }
        long hash = 3691;
        for (long v : list) {
            hash = 31 * hash + v;
        }
        return hash;
    }
}
