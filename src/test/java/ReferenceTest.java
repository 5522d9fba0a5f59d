/** Long runs of mixed calls, each answer and each digest against those of the second writing, Reference. */
public final class ReferenceTest {
    private static final int RUNS = 3000;
    private static final int CALLS = 120;
    private static final String CODES = "0123456789,-0123456789,-0123456789,-!~.+";

    private long seed;

    private ReferenceTest(long seed) {
        this.seed = seed;
    }

    private int below(int bound) {
        seed = seed * 6364136223846793005L + 1442695040888963407L;
        return (int) Math.floorMod(seed >>> 33, (long) bound);
    }

    /** Mostly from least to most, now and then around or far outside. */
    private int about(int least, int most) {
        switch (below(40)) {
            case 0:
                return least - 1;
            case 1:
                return most + 1;
            case 2:
                return below(2) == 0 ? Integer.MIN_VALUE : Integer.MAX_VALUE;
            default:
                return least + below(most - least + 1);
        }
    }

    private int block(StickPairs x) {
        return about(0, Math.max(0, x.count(2) - 1));
    }

    /** Makes the call on both; the answer of a call that throws is told by its exception's name. */
    private static void pair(String what, Check.Call got, Check.Call due) {
        String gotName = null;
        String dueName = null;
        long gotAnswer = 0;
        long dueAnswer = 0;
        try {
            gotAnswer = got.answer();
        } catch (RuntimeException e) {
            gotName = e.getClass().getSimpleName();
        }
        try {
            dueAnswer = due.answer();
        } catch (RuntimeException e) {
            dueName = e.getClass().getSimpleName();
        }
        boolean alike = gotName == null ? dueName == null : gotName.equals(dueName);
        Check.same(what + " threw " + gotName + ", due is " + dueName + "; alike", alike ? 1 : 0, 1);
        Check.same(what, gotAnswer, dueAnswer);
    }

    private void text(String what, StickPairs x, Reference y) {
        int parts = 1 + below(3);
        for (int part = 0; part < parts; part++) {
            String readings = part > 0 ? "," : "";
            int first = below(3) == 0 ? below(48) : below(Math.max(1, x.count(2)));
            readings += first;
            if (below(3) > 0) {
                readings += "-" + Math.min(47, first + below(9) - (below(20) == 0 ? 3 : 0));
            }
            for (char c : readings.toCharArray()) {
                pair(what + " append", () -> x.append(c), () -> y.append(c));
            }
        }
    }

    private void stickCall(String what, StickPairs x, Reference y) {
        int slot = about(0, 3);
        int size = about(1, 12);
        int ranks = about(1, 2);
        int delay = about(1, 9);
        switch (below(6)) {
            case 0:
                pair(what + " pull", () -> x.pull(slot), () -> y.pull(slot));
                break;
            case 1:
                pair(what + " fail", () -> x.fail(slot), () -> y.fail(slot));
                break;
            default:
                pair(what + " plug", () -> x.plug(slot, size, ranks, delay), () -> y.plug(slot, size, ranks, delay));
                break;
        }
    }

    private void machineCall(String what, StickPairs x, Reference y) {
        int block = block(x);
        int value = about(0, 99);
        int ticks = about(1, 99);
        int setting = about(0, 1);
        int to = about(0, 2);
        switch (below(12)) {
            case 0:
            case 1:
                pair(what + " start", x::start, y::start);
                break;
            case 2:
                pair(what + " stop", x::stop, y::stop);
                break;
            case 3:
                pair(what + " rest", () -> x.rest(ticks), () -> y.rest(ticks));
                break;
            case 4:
                pair(what + " set", () -> x.set(setting, to), () -> y.set(setting, to));
                break;
            case 5:
            case 6:
            case 7:
                pair(what + " read", () -> x.read(block), () -> y.read(block));
                break;
            default:
                pair(what + " write", () -> x.write(block, value), () -> y.write(block, value));
                break;
        }
    }

    private void textCall(String what, StickPairs x, Reference y) {
        int code = below(12) == 0 ? about(33, 126) : CODES.charAt(below(CODES.length()));
        switch (below(8)) {
            case 0:
                pair(what + " append", () -> x.append(code), () -> y.append(code));
                break;
            case 1:
                pair(what + " clearBuffer", x::clearBuffer, y::clearBuffer);
                break;
            case 2:
                pair(what + " keep", x::keep, y::keep);
                break;
            case 3:
                pair(what + " goBack", x::goBack, y::goBack);
                break;
            case 4:
                pair(what + " undo", x::undo, y::undo);
                break;
            default:
                if (below(3) > 0) {
                    pair(what + " clearBuffer", x::clearBuffer, y::clearBuffer);
                }
                text(what, x, y);
                pair(what + " firstError", x::firstError, y::firstError);
                pair(what + " run", x::run, y::run);
                break;
        }
    }

    private void look(String what, StickPairs x, Reference y) {
        int slot = about(0, 3);
        int number = about(0, 11);
        int block = block(x);
        int map = about(0, 2);
        int one = about(0, 1);
        pair(what + " slot", () -> x.slot(slot, number), () -> y.slot(slot, number));
        pair(what + " where", () -> x.where(block, number), () -> y.where(block, number));
        pair(what + " lies", () -> x.lies(slot, number), () -> y.lies(slot, number));
        pair(what + " count", () -> x.count(number), () -> y.count(number));
        pair(what + " setting", () -> x.setting(one), () -> y.setting(one));
        pair(what + " why", x::why, y::why);
        pair(what + " sweep", () -> x.sweep(map), () -> y.sweep(map));
        pair(what + " ifStarted", () -> x.ifStarted(map, one), () -> y.ifStarted(map, one));
        pair(what + " bestChange", x::bestChange, y::bestChange);
        pair(what + " wideShare", () -> Double.doubleToLongBits(x.wideShare()),
                () -> Double.doubleToLongBits(y.wideShare()));
        pair(what + " meanTicks", () -> Float.floatToIntBits(x.meanTicks()),
                () -> Float.floatToIntBits(y.meanTicks()));
    }

    private void randomRun(int run) {
        StickPairs x = new StickPairs();
        Reference y = new Reference();
        for (int call = 0; call < CALLS; call++) {
            String what = "run " + run + ", call " + call + ":";
            int kind = below(10);
            if (kind < 3) {
                stickCall(what, x, y);
            } else if (kind < 7) {
                machineCall(what, x, y);
            } else {
                textCall(what, x, y);
            }
            look(what, x, y);
            pair(what + " digest", x::digest, y::digest);
        }
    }

    /** Texts of any characters, their first errors and whether they run. */
    private void textRun(int run) {
        StickPairs x = new StickPairs();
        Reference y = new Reference();
        for (int i = 0; i < 62; i++) {
            String what = "text " + run + ", character " + i + ":";
            boolean comma = i % 2 == 1 && run % 4 == 0;
            int code = comma ? ',' : CODES.charAt(below(run % 3 == 0 ? CODES.length() - 4 : 10));
            pair(what + " append", () -> x.append(code), () -> y.append(code));
            pair(what + " firstError", x::firstError, y::firstError);
            if (below(15) == 0) {
                pair(what + " run", x::run, y::run);
            }
        }
        pair("text " + run + ": digest", x::digest, y::digest);
    }

    /** Every plugging of a few sizes into the four slots, under each map. */
    private static void layoutRuns() {
        int[] sizes = {0, 1, 2, 5, 12};
        for (int all = 0; all < 5 * 5 * 5 * 5; all++) {
            StickPairs x = new StickPairs();
            Reference y = new Reference();
            int rest = all;
            for (int s = 0; s < 4; s++) {
                int slot = s;
                int size = sizes[rest % 5];
                rest /= 5;
                if (size > 0) {
                    pair("layout plug", () -> x.plug(slot, size, 1 + slot % 2, 2 + slot),
                            () -> y.plug(slot, size, 1 + slot % 2, 2 + slot));
                }
            }
            for (int m = 0; m < 3; m++) {
                int map = m;
                pair("layout set", () -> x.set(0, map), () -> y.set(0, map));
                pair("layout start", x::start, y::start);
                pair("layout " + all + ", map " + map + ": digest", x::digest, y::digest);
                agree(x);
            }
        }
    }

    /** where and lies agree. */
    private static void agree(StickPairs x) {
        for (int block = 0; block < x.count(2); block++) {
            Check.same("lies of where", x.lies(x.where(block, 0), x.where(block, 1)), block);
            if (x.where(block, 4) != StickPairs.NONE) {
                Check.same("lies of where again", x.lies(x.where(block, 4), x.where(block, 5)), block);
            }
        }
    }

    public static void main(String[] args) {
        for (int run = 0; run < RUNS; run++) {
            new ReferenceTest(7919L * run + 17).randomRun(run);
        }
        for (int run = 0; run < 400; run++) {
            new ReferenceTest(104729L * run + 5).textRun(run);
        }
        layoutRuns();
        Check.end("ReferenceTest");
    }
}
