/** What the tests of the promises share: machines that are made in one line, and rows of answers. */
abstract class Machines {
    static final int NONE = StickPairs.NONE;

    /** Plugs sticks of the sizes in, 0 for none, all with these ranks and this delay. */
    static StickPairs with(int ranks, int delay, int... sizes) {
        StickPairs x = new StickPairs();
        for (int slot = 0; slot < sizes.length; slot++) {
            if (sizes[slot] > 0) {
                x.plug(slot, sizes[slot], ranks, delay);
            }
        }
        return x;
    }

    static StickPairs started(int map, int ranks, int delay, int... sizes) {
        StickPairs x = with(ranks, delay, sizes);
        x.set(0, map);
        x.start();
        return x;
    }

    /** The same state with one saved state alone, so that there is room for more; it is the snapshot, too. */
    static void leaveRoom(StickPairs x) {
        x.keep();
        for (int left = x.count(11); left > 0; left--) {
            x.undo();
        }
        x.goBack();
    }

    /** Rooms of 4 and 4; all three sticks have other ranks or delays. */
    static StickPairs unlikeThree() {
        StickPairs x = new StickPairs();
        x.plug(0, 4, 2, 3);
        x.plug(2, 1, 1, 1);
        x.plug(3, 3, 1, 6);
        return x;
    }

    /** Writes the value to every block. */
    static void fill(StickPairs x, int value) {
        for (int block = 0; block < x.count(2); block++) {
            x.write(block, value);
        }
    }

    static void type(StickPairs x, String codes) {
        x.clearBuffer();
        for (char c : codes.toCharArray()) {
            x.append(c);
        }
    }

    static int run(StickPairs x, String codes) {
        type(x, codes);
        return x.run();
    }

    static void counts(String what, StickPairs x, int... due) {
        for (int i = 0; i < due.length; i++) {
            Check.same(what + " count(" + i + ")", x.count(i), due[i]);
        }
    }

    static void numbers(String what, StickPairs x, int slot, int... due) {
        for (int i = 0; i < due.length; i++) {
            Check.same(what + " slot(" + slot + ", " + i + ")", x.slot(slot, i), due[i]);
        }
    }

    static void place(String what, StickPairs x, int block, int... due) {
        for (int i = 0; i < due.length; i++) {
            Check.same(what + " where(" + block + ", " + i + ")", x.where(block, i), due[i]);
        }
    }

    /** The blocks that lie in the slot from the number 0 on; behind them, up to 11, there is none. */
    static void liesAll(String what, StickPairs x, int slot, int... due) {
        for (int number = 0; number < 12; number++) {
            int each = number;
            Check.look(what + " lies(" + slot + ", " + number + ")", x, () -> x.lies(slot, each),
                    number < due.length ? due[number] : NONE);
        }
    }

    static void share(String what, double got, double due) {
        Check.same(what, Double.doubleToLongBits(got), Double.doubleToLongBits(due));
    }

    static void mean(String what, float got, float due) {
        Check.same(what, Float.floatToIntBits(got), Float.floatToIntBits(due));
    }

    /** Just outside of the bounds, far outside, and where a doubling or a sum would wrap around. */
    static int[] outside(int least, int most) {
        return new int[] {least - 1, most + 1, -1000, 1000, 1 << 16, 1 << 30, -(1 << 30), Integer.MAX_VALUE - 1,
            Integer.MAX_VALUE, Integer.MIN_VALUE + 1, Integer.MIN_VALUE};
    }
}
