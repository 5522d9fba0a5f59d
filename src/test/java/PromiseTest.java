/** The promises 1 to 29, one after the other, with answers worked out by hand from the document. */
public final class PromiseTest extends Machines {
    private static void promise1NewObject() {
        StickPairs x = new StickPairs();
        counts("new", x, 0, 0, 0, 0, 0, 0, 0, 0, 0, 0, 0, 0);
        Check.same("new map setting", x.setting(0), 0);
        Check.same("new pair setting", x.setting(1), 1);
        for (int slot = 0; slot < 4; slot++) {
            numbers("new", x, slot, NONE, NONE, NONE, NONE, NONE, NONE, NONE, NONE);
            Check.same("new lies", x.lies(slot, 0), NONE);
        }
        Check.same("new buffer", x.clearBuffer(), 0);
        Check.noState("new goBack", x, x::goBack);
        Check.noState("new undo", x, x::undo);
        Check.noState("new stop", x, x::stop);
        Check.noState("new start", x, x::start);
        Check.noIndex("new where", x, () -> x.where(0, 0));
    }

    private static void promise2Plug() {
        StickPairs x = new StickPairs();
        Check.undoable("plug", x, () -> x.plug(3, 12, 2, 9), 1);
        numbers("plugged", x, 3, 12, 2, 9, 0, 0, 0, 0, 0);
        Check.undoable("plug the least", x, () -> x.plug(0, 1, 1, 1), 2);
        numbers("plugged", x, 0, 1, 1, 1, 0, 0, 0, NONE, 0);
        for (int slot : new int[] {-1, 4, Integer.MIN_VALUE, Integer.MAX_VALUE}) {
            Check.noIndex("plug outside", x, () -> x.plug(slot, 1, 1, 1));
            Check.noIndex("plug all wrong", x, () -> x.plug(slot, 0, 0, 0));
        }
        int[][] wrong = {{0, 1, 1}, {13, 1, 1}, {-1, 1, 1}, {1, 0, 1}, {1, 3, 1}, {1, -1, 1}, {1, 1, 0}, {1, 1, 10},
            {Integer.MAX_VALUE, 1, 1}, {1, Integer.MIN_VALUE, 1}, {1, 1, Integer.MAX_VALUE}};
        for (int[] each : wrong) {
            Check.noArgument("plug a wrong stick", x, () -> x.plug(1, each[0], each[1], each[2]));
            Check.noArgument("plug a wrong stick on one", x, () -> x.plug(3, each[0], each[1], each[2]));
        }
        Check.noState("plug on one", x, () -> x.plug(3, 1, 1, 1));
        x.fail(3);
        Check.noState("plug on a failed one", x, () -> x.plug(3, 1, 1, 1));
        x.plug(1, 2, 1, 2);
        Check.same("plug the fourth", x.plug(2, 2, 1, 2), 4);
        plugInAUsedSlot();
    }

    private static void plugInAUsedSlot() {
        StickPairs x = started(0, 2, 5, 2, 0, 2);
        x.rest(7);
        x.read(2);
        x.read(3);
        x.pull(2);
        Check.same("plug in place", x.plug(2, 4, 2, 3), 2);
        numbers("in place", x, 2, 4, 2, 3, 0, 0, 0, 0, 0);
        numbers("the other", x, 0, 2, 2, 5, 0, 1, 0, 12, 1);
        Check.same("it holds no block", x.where(1, 6), 0);
        Check.same("it has no rank for it", x.where(1, 2), NONE);
        Check.same("lies as it was", x.lies(2, 1), 3);
        Check.same("lies no further", x.lies(2, 2), NONE);
        Check.same("blocks stay", x.count(2), 4);
    }

    private static void promise3Pull() {
        StickPairs x = started(0, 1, 1, 5, 0, 2);
        Check.undoable("pull", x, () -> x.pull(0), 5);
        numbers("pulled", x, 0, NONE, NONE, NONE, NONE, NONE, NONE, NONE, NONE);
        counts("pulled", x, 1, 0, 7, 4, 0, 0, 0, 0, 5);
        Check.noState("pull no stick", x, () -> x.pull(0));
        Check.noIndex("pull below", x, () -> x.pull(-1));
        Check.noIndex("pull above", x, () -> x.pull(4));
        x.plug(0, 5, 1, 1);
        leaveRoom(x);
        Check.undoable("pull one in no map", x, () -> x.pull(0), 0);
        x.fail(2);
        Check.undoable("pull a failed one", x, () -> x.pull(2), 0);
        Check.same("no failed one is left", x.count(1), 0);
        Check.same("pull before a start", with(1, 1, 3).pull(0), 0);
        StickPairs stopped = started(0, 1, 1, 3, 3, 3, 3);
        stopped.stop();
        Check.same("pull behind a stop", stopped.pull(1), 0);
        Check.same("pull of a narrow map", started(1, 1, 1, 3, 4).pull(1), 4);
        Check.same("pull mirrored, all used", started(2, 1, 1, 3, 4, 9).pull(0), 3);
        Check.same("pull mirrored, all used", started(2, 1, 1, 3, 4, 9).pull(1), 4);
        Check.same("pull mirrored, some used", started(2, 1, 1, 3, 4, 9).pull(2), 7);
        Check.same("pull mirrored, none used", started(2, 1, 1, 3, 4, 2).pull(1), 0);
        Check.same("pull mirrored, first used", started(2, 1, 1, 3, 4, 2).pull(0), 2);
        StickPairs late = started(0, 1, 1, 3, 0, 3);
        late.plug(1, 6, 1, 1);
        Check.same("pull of a late one", late.pull(1), 0);
    }

    private static void promise4Fail() {
        StickPairs x = started(0, 1, 1, 5, 0, 2);
        Check.undoable("fail", x, () -> x.fail(0), 5);
        numbers("failed", x, 0, 5, 1, 1, 1, 1, 0, NONE, 0);
        counts("failed", x, 2, 1, 7, 4, 0, 0, 0, 0, 5);
        Check.noState("fail twice", x, () -> x.fail(0));
        Check.noState("fail no stick", x, () -> x.fail(1));
        Check.noIndex("fail below", x, () -> x.fail(-1));
        Check.noIndex("fail above", x, () -> x.fail(4));
        x.plug(1, 5, 1, 1);
        leaveRoom(x);
        Check.undoable("fail one in no map", x, () -> x.fail(1), 0);
        Check.same("two failed", x.count(1), 2);
        Check.same("fail before a start", with(1, 1, 3).fail(0), 0);
        Check.same("fail mirrored, a part used", started(2, 1, 1, 3, 4, 5).fail(1), 2);
        StickPairs y = started(0, 1, 1, 2, 0, 2);
        y.fail(0);
        y.start();
        numbers("failed before a start", y, 0, 2, 1, 1, 1, 0);
        Check.same("its map", y.count(2), 2);
        y.pull(0);
        Check.same("a new stick has not failed", y.plug(0, 2, 1, 1), 2);
        Check.same("a new stick has not failed", y.slot(0, 3), 0);
        Check.same("a new stick can fail", y.fail(0), 0);
    }

    private static void promise5Start() {
        StickPairs x = with(2, 5, 4, 0, 2);
        Check.undoable("start", x, x::start, 6);
        counts("started", x, 2, 0, 6, 4, 0, 0, 0, 0, 0, 1, 0);
        x.write(5, 50);
        x.write(0, 7);
        x.read(0);
        x.read(1);
        x.rest(10);
        x.fail(2);
        Check.same("start anew", x.start(), 4);
        counts("started anew", x, 2, 1, 4, 0, 12, 2, 0, 0, 0, 2, 0);
        numbers("free again", x, 0, 4, 2, 5, 0, 1, 12, 12, 1);
        numbers("free again, though failed", x, 2, 2, 2, 5, 1, 0, 12, 12, 1);
        Check.same("all hold 0", x.read(0), 0);
        x.fail(0);
        Check.noState("start without good sticks", x, x::start);
        Check.same("the old map stays", x.count(2), 4);
        StickPairs y = with(1, 1, 3, 3);
        y.set(0, 2);
        Check.noState("start mirrored in one channel", y, y::start);
        y.plug(2, 1, 1, 1);
        Check.same("start mirrored", y.start(), 1);
        y.set(0, 1);
        Check.same("the map stays", y.count(2), 1);
        Check.same("start narrow", y.start(), 7);
        y.set(0, 0);
        Check.same("start wide", y.start(), 7);
        Check.same("wide", y.count(3), 2);
        Check.same("all blocks", started(0, 1, 1, 12, 12, 12, 12).count(2), 48);
        Check.same("one channel alone, wide", started(0, 1, 1, 0, 0, 0, 7).count(2), 7);
        Check.same("one channel alone, narrow", started(1, 1, 1, 0, 0, 0, 7).count(2), 7);
    }

    private static void promise6Stop() {
        StickPairs x = started(0, 2, 5, 4, 0, 2);
        x.write(0, 9);
        Check.undoable("stop", x, x::stop, 6);
        counts("stopped", x, 2, 0, 0, 0, 0, 0, 0, 0, 0, 1, 0);
        numbers("in no map", x, 0, 4, 2, 5, 0, 0, 0, 0, 0);
        Check.same("lies nowhere", x.lies(0, 0), NONE);
        Check.noState("stop twice", x, x::stop);
        Check.noIndex("read behind it", x, () -> x.read(0));
        Check.noIndex("write behind it", x, () -> x.write(0, 0));
        Check.noIndex("where behind it", x, () -> x.where(0, 0));
        x.start();
        Check.same("all hold 0 behind a start", x.read(0), 0);
        StickPairs y = started(1, 1, 1, 3);
        y.pull(0);
        Check.same("stop without a stick", y.stop(), 3);
    }

    private static void promise7Write() {
        StickPairs x = started(0, 2, 5, 4, 0, 2);
        Check.undoable("write", x, () -> x.write(5, 99), 0);
        Check.same("write again", x.write(5, 0), 99);
        Check.same("write again", x.write(5, 1), 0);
        counts("writing takes no ticks", x, 2, 0, 6, 4, 0, 0, 0, 0, 0, 1, 1);
        Check.same("it keeps no rank", x.slot(0, 6), 0);
        Check.same("it is no reading", x.slot(0, 7), 0);
        for (int block : new int[] {-1, 6, 47, Integer.MIN_VALUE, Integer.MAX_VALUE}) {
            Check.noIndex("write outside", x, () -> x.write(block, 1));
            Check.noIndex("write all wrong", x, () -> x.write(block, 100));
        }
        for (int value : new int[] {-1, 100, Integer.MIN_VALUE, Integer.MAX_VALUE}) {
            Check.noArgument("write a wrong value", x, () -> x.write(0, value));
        }
        x.fail(2);
        Check.noState("write to a failed one", x, () -> x.write(1, 1));
        Check.noArgument("write a wrong value to a failed one", x, () -> x.write(1, 100));
        x.pull(0);
        Check.noState("write to a pulled one", x, () -> x.write(0, 1));
        StickPairs y = started(2, 1, 1, 3, 0, 3);
        y.write(1, 11);
        y.fail(0);
        Check.same("write to the mirror", y.write(1, 12), 11);
        Check.same("read of the mirror", y.read(1), 12);
        y.fail(2);
        Check.noState("write to no mirror", y, () -> y.write(1, 1));
    }

    private static void promise8Read() {
        StickPairs x = started(0, 2, 5, 4, 0, 2);
        x.write(3, 77);
        Check.undoable("read", x, () -> x.read(3), 77);
        counts("read once", x, 2, 0, 6, 4, 1, 1, 0, 0);
        numbers("its rank", x, 2, 2, 2, 5, 0, 1, 0, 5, 1);
        x.read(1);
        numbers("the other rank", x, 2, 2, 2, 5, 0, 1, 6, 5, 2);
        Check.same("the rank is waited for", x.read(3), 77);
        counts("waited", x, 2, 0, 6, 4, 6, 3, 0, 3);
        numbers("from the tick of the reading on", x, 2, 2, 2, 5, 0, 1, 6, 10, 3);
        x.rest(4);
        x.read(3);
        counts("not waited", x, 2, 0, 6, 4, 11, 4, 0, 3);
        for (int block : new int[] {-1, 6, 47, Integer.MIN_VALUE, Integer.MAX_VALUE}) {
            Check.noIndex("read outside", x, () -> x.read(block));
        }
        x.fail(2);
        Check.noState("read of a failed one", x, () -> x.read(3));
        x.pull(0);
        Check.noState("read of a pulled one", x, () -> x.read(0));
        x.plug(0, 4, 1, 1);
        Check.noState("read of a late one", x, () -> x.read(0));
        readMirrors();
        readOneRank();
    }

    private static void readMirrors() {
        StickPairs x = started(2, 2, 4, 1, 2, 0, 3);
        x.write(2, 5);
        Check.same("read mirrored", x.read(2), 5);
        numbers("read in the channel 0", x, 1, 2, 2, 4, 0, 1, 0, 4, 1);
        numbers("not in the channel 1", x, 3, 3, 2, 4, 0, 1, 0, 0, 0);
        x.pull(1);
        Check.same("read the mirror", x.read(2), 5);
        numbers("read in the channel 1", x, 3, 3, 2, 4, 0, 1, 5, 0, 1);
        Check.same("read of a whole one", x.read(0), 0);
        Check.same("in the channel 0", x.slot(0, 7), 1);
    }

    private static void readOneRank() {
        StickPairs x = started(1, 1, 9, 3);
        x.read(0);
        x.read(1);
        counts("one rank for all", x, 1, 0, 3, 0, 10, 2, 0, 8);
        numbers("one rank for all", x, 0, 3, 1, 9, 0, 1, 18, NONE, 2);
        StickPairs y = started(1, 1, 1, 3);
        y.read(0);
        y.read(0);
        counts("a delay of 1 is hidden", y, 1, 0, 3, 0, 2, 2, 0, 0);
    }

    private static void promise9Rest() {
        StickPairs x = new StickPairs();
        Check.undoable("rest", x, () -> x.rest(1), 1);
        Check.undoable("rest long", x, () -> x.rest(99), 100);
        counts("rested", x, 0, 0, 0, 0, 100, 0, 0, 0);
        for (int ticks : new int[] {0, 100, -1, Integer.MIN_VALUE, Integer.MAX_VALUE}) {
            Check.noArgument("rest", x, () -> x.rest(ticks));
        }
    }

    private static void promise10Set() {
        StickPairs x = started(0, 1, 1, 2, 0, 2);
        Check.undoable("set mirrored", x, () -> x.set(0, 2), 0);
        Check.same("it is set", x.setting(0), 2);
        Check.same("the map stays", x.count(3), 4);
        Check.undoable("set the same", x, () -> x.set(0, 2), 2);
        leaveRoom(x);
        Check.undoable("set no pairs", x, () -> x.set(1, 0), 1);
        Check.same("it is set", x.setting(1), 0);
        Check.same("set back", x.set(1, 1), 0);
        Check.same("set narrow", x.set(0, 1), 2);
        Check.noIndex("set below", x, () -> x.set(-1, 0));
        Check.noIndex("set above", x, () -> x.set(2, 0));
        Check.noIndex("set all wrong", x, () -> x.set(2, 9));
        Check.noArgument("map below", x, () -> x.set(0, -1));
        Check.noArgument("map above", x, () -> x.set(0, 3));
        Check.noArgument("pairs below", x, () -> x.set(1, -1));
        Check.noArgument("pairs above", x, () -> x.set(1, 2));
    }

    private static void promise11Append() {
        StickPairs x = new StickPairs();
        Check.same("append the least", x.append(33), 1);
        Check.same("append the greatest", x.append(126), 2);
        Check.same("it is not undoable", x.count(11), 0);
        for (int code : new int[] {32, 127, 0, -1, Integer.MIN_VALUE, Integer.MAX_VALUE}) {
            Check.noArgument("append", x, () -> x.append(code));
        }
        for (int length = 3; length <= 60; length++) {
            Check.same("append", x.append('0'), length);
        }
        Check.noState("append the 61st", x, () -> x.append('0'));
        Check.noArgument("append a wrong 61st", x, () -> x.append(32));
        Check.same("60 stay", x.clearBuffer(), 60);
    }

    private static void promise12ClearBuffer() {
        StickPairs x = new StickPairs();
        Check.same("clear nothing", x.clearBuffer(), 0);
        type(x, "12-4x");
        Check.same("clear", x.clearBuffer(), 5);
        Check.same("cleared", x.clearBuffer(), 0);
        Check.same("it is not undoable", x.count(11), 0);
        Check.same("append behind it", x.append('1'), 1);
        x.rest(1);
        x.append('2');
        x.undo();
        Check.same("undo leaves the buffer", x.clearBuffer(), 2);
    }

    private static void firstError(String codes, int due) {
        StickPairs x = new StickPairs();
        type(x, codes);
        Check.look("firstError of " + codes, x, x::firstError, due);
    }

    private static void promise13FirstError() {
        String[] faultless = {"", "0", "9", "10", "39", "40", "47", "4", "0-", "0-0", "47-47", "5-3", "40-3", "0,",
            "0,1", "0-1,", "0-1,2-3,4", "1-1"};
        for (String codes : faultless) {
            firstError(codes, codes.length());
        }
        firstError("00", 1);
        firstError("01", 1);
        firstError("48", 1);
        firstError("49", 1);
        firstError("50", 1);
        firstError("99", 1);
        firstError("100", 2);
        firstError("470", 2);
        firstError(",", 0);
        firstError("-", 0);
        firstError("-1", 0);
        firstError("1,,", 2);
        firstError("1,-", 2);
        firstError("1--", 2);
        firstError("1-,", 2);
        firstError("1-2-", 3);
        firstError("1-02", 3);
        firstError("1-48", 3);
        firstError("1,48x", 3);
        firstError("1,00", 3);
        firstError("a", 0);
        firstError("1/", 1);
        firstError("1:", 1);
        firstError("1+2", 1);
        firstError("x,1", 0);
        firstError("0,".repeat(30), 60);
        firstError("47-47,".repeat(10), 60);
        firstError("47-47,".repeat(9) + "47-474", 59);
    }

    private static void promise14Run() {
        StickPairs x = started(0, 2, 5, 4, 0, 2);
        x.write(1, 10);
        x.write(3, 77);
        x.write(4, 3);
        type(x, "0-5");
        Check.same("run", x.run(), 90);
        Check.same("the buffer is cleared", x.clearBuffer(), 0);
        counts("pairs, then narrow ones", x, 2, 0, 6, 4, 7, 6, 2, 3, 0, 1, 90, 6);
        numbers("ranks in turn", x, 0, 4, 2, 5, 0, 1, 10, 11, 4);
        numbers("ranks in turn", x, 2, 2, 2, 5, 0, 1, 5, 6, 2);
        runIsOneUndoableCall();
        runRefuses();
        runStops();
        runPairs();
    }

    private static void runIsOneUndoableCall() {
        StickPairs x = started(0, 1, 3, 4, 0, 4);
        x.rest(1);
        long before = x.digest();
        run(x, "0,2-3,0");
        Check.same("saved states", x.count(11), 6);
        Check.same("undo", x.undo(), 5);
        Check.same("the state behind undo", x.digest(), before);
        StickPairs y = new StickPairs();
        Check.same("run without a map", run(y, "0-47"), 0);
        Check.same("one saved state", y.count(11), 1);
        Check.same("it cleared the buffer", y.clearBuffer(), 0);
        y.undo();
        type(y, "7");
        y.rest(1);
        y.run();
        y.undo();
        Check.same("undo leaves the buffer as it is", y.clearBuffer(), 0);
    }

    private static void runRefuses() {
        StickPairs x = started(0, 1, 3, 4, 0, 4);
        String[] wrong = {"", "0,", "0-", "1-0", "47-46", "0,3-2", "3-2,0", "00", "48", "0,,1", "-", ",", "x", "0x",
            "0-1-2", "0-1,2-", "10-9"};
        for (String codes : wrong) {
            type(x, codes);
            Check.noArgument("run of " + codes, x, x::run);
            Check.same("the buffer stays", x.clearBuffer(), codes.length());
        }
    }

    private static void runStops() {
        StickPairs x = started(0, 1, 1, 2, 0, 2);
        x.write(0, 1);
        x.write(1, 2);
        x.write(2, 4);
        x.write(3, 8);
        Check.same("to the end of the map", run(x, "2-9,0"), 12);
        Check.same("outside at once", run(x, "4,0"), 0);
        Check.same("the part before", run(x, "0,4,1"), 1);
        x.fail(2);
        Check.same("the first of a pair alone", run(x, "0-3"), 1);
        Check.same("no pair", x.count(6), 1);
        Check.same("the good ones", run(x, "2,0"), 5);
        Check.same("a failed one first", run(x, "1,0"), 0);
        x.start();
        x.write(0, 30);
        x.write(1, 40);
        Check.same("up to the map's end", run(x, "1,0-1,2-2,0"), 110);
    }

    private static void runPairs() {
        StickPairs x = started(0, 1, 1, 3, 0, 2);
        run(x, "0,1");
        counts("no pair over a comma", x, 2, 0, 5, 4, 2, 2, 0);
        run(x, "1-2");
        counts("no pair from an odd one on", x, 2, 0, 5, 4, 4, 4, 0);
        run(x, "1-3");
        counts("a pair behind an odd one", x, 2, 0, 5, 4, 6, 7, 1);
        run(x, "2-4");
        counts("a narrow one has no pair", x, 2, 0, 5, 4, 8, 10, 2);
        run(x, "0-0,1-1");
        counts("no pair over parts", x, 2, 0, 5, 4, 10, 12, 2);
        x.set(1, 0);
        run(x, "0-3");
        counts("no pairs by the setting", x, 2, 0, 5, 4, 14, 16, 2);
        x.set(1, 1);
        x.set(0, 1);
        x.start();
        run(x, "0-3");
        counts("no pairs in a narrow map", x, 2, 0, 5, 0, 18, 20, 2);
        x.set(0, 2);
        x.start();
        run(x, "0-1");
        counts("no pairs in a mirrored map", x, 2, 0, 2, 0, 20, 22, 2);
        StickPairs y = new StickPairs();
        y.plug(0, 2, 1, 7);
        y.plug(2, 2, 1, 4);
        y.start();
        run(y, "0-3");
        counts("both ranks are waited for, once", y, 2, 0, 4, 4, 8, 4, 2, 6);
        Check.same("each by its delay", y.slot(0, 5), 14);
        Check.same("each by its delay", y.slot(2, 5), 11);
    }

    private static void promise15Keep() {
        StickPairs x = started(0, 1, 3, 2, 0, 2);
        x.rest(5);
        int states = x.count(11);
        Check.same("keep", x.keep(), 5);
        Check.same("it is not undoable", x.count(11), states);
        x.rest(6);
        Check.same("keep in place of it", x.keep(), 11);
        x.rest(1);
        Check.same("the later one", x.goBack(), 11);
        x.undo();
        x.undo();
        Check.same("undo leaves the snapshot", x.goBack(), 11);
        StickPairs y = new StickPairs();
        long before = y.digest();
        y.keep();
        Check.same("the digest tells of it", y.digest() == before ? 1 : 0, 0);
    }

    private static void promise16GoBack() {
        StickPairs x = with(2, 3, 2, 0, 2);
        Check.noState("goBack without one", x, x::goBack);
        x.keep();
        x.start();
        x.write(0, 5);
        x.read(0);
        x.set(1, 0);
        Check.same("goBack", x.goBack(), 0);
        counts("as it was", x, 2, 0, 0, 0, 0, 0, 0, 0, 0, 0, 0, 6);
        Check.same("setting as it was", x.setting(1), 1);
        Check.same("it stays", x.goBack(), 0);
        Check.same("it can be undone", x.undo(), 5);
        Check.same("it can be undone", x.undo(), 4);
        counts("before it", x, 2, 0, 4, 4, 1, 1, 0, 0, 0, 1, 5);
        x.append('1');
        x.append('2');
        x.goBack();
        Check.same("the buffer is left", x.clearBuffer(), 2);
        x.plug(1, 1, 1, 1);
        x.undo();
        x.keep();
        x.pull(0);
        x.goBack();
        x.fail(0);
        x.goBack();
        numbers("the snapshot does not change", x, 0, 2, 2, 3, 0, 0, 0, 0, 0);
    }

    private static void promise17Undo() {
        StickPairs x = new StickPairs();
        Check.noState("undo nothing", x, x::undo);
        for (int i = 1; i <= 8; i++) {
            x.rest(1);
            Check.same("saved", x.count(11), Math.min(6, i));
        }
        for (int left = 5; left >= 0; left--) {
            Check.same("undo", x.undo(), left);
            Check.same("the tick", x.count(4), left + 2);
        }
        Check.noState("undo no more", x, x::undo);
        x.plug(0, 3, 2, 4);
        x.start();
        x.write(0, 9);
        long before = x.digest();
        x.read(0);
        x.fail(0);
        x.pull(0);
        x.undo();
        x.undo();
        x.undo();
        Check.same("all is as it was", x.digest(), before);
        Check.same("its value", x.read(0), 9);
        Check.noState("a refused call saves nothing", x, () -> x.plug(0, 1, 1, 1));
    }

    private static void promise18Slot() {
        StickPairs x = started(0, 2, 5, 4, 0, 2);
        for (int slot : new int[] {-1, 4, Integer.MIN_VALUE, Integer.MAX_VALUE}) {
            Check.noIndex("slot outside", x, () -> x.slot(slot, 0));
            Check.noIndex("slot all wrong", x, () -> x.slot(slot, 8));
        }
        for (int what : new int[] {-1, 8, Integer.MIN_VALUE, Integer.MAX_VALUE}) {
            Check.noArgument("slot's number", x, () -> x.slot(0, what));
            Check.noArgument("an empty slot's number", x, () -> x.slot(1, what));
        }
        x.read(2);
        x.read(0);
        x.fail(0);
        int[] due = {4, 2, 5, 1, 1, 6, 5, 2};
        for (int what = 0; what < 8; what++) {
            int each = what;
            Check.look("slot(0, " + what + ")", x, () -> x.slot(0, each), due[what]);
            Check.look("slot(1, " + what + ")", x, () -> x.slot(1, each), NONE);
        }
    }

    private static void promise19Where() {
        StickPairs x = started(0, 2, 1, 1, 3, 2, 1);
        place("wide", x, 0, 0, 0, 0, 1, NONE, NONE, 1);
        place("wide", x, 1, 2, 0, 0, 1, NONE, NONE, 1);
        place("wide", x, 2, 1, 0, 0, 1, NONE, NONE, 1);
        place("wide", x, 3, 2, 1, 1, 1, NONE, NONE, 1);
        place("wide", x, 4, 1, 1, 1, 1, NONE, NONE, 1);
        place("wide", x, 5, 3, 0, 0, 1, NONE, NONE, 1);
        place("narrow", x, 6, 1, 2, 0, 0, NONE, NONE, 1);
        x.fail(1);
        place("failed", x, 4, 1, 1, 1, 1, NONE, NONE, 0);
        x.pull(1);
        place("pulled", x, 4, 1, 1, NONE, 1, NONE, NONE, 0);
        StickPairs y = started(0, 1, 1, 0, 2, 3, 2);
        place("narrow in the channel 1", y, 4, 2, 2, 0, 0, NONE, NONE, 1);
        place("narrow in the channel 1", y, 6, 3, 1, 0, 0, NONE, NONE, 1);
        StickPairs z = started(1, 2, 1, 2, 1, 0, 2);
        place("all narrow", z, 1, 0, 1, 1, 0, NONE, NONE, 1);
        place("all narrow", z, 2, 1, 0, 0, 0, NONE, NONE, 1);
        place("all narrow", z, 3, 3, 0, 0, 0, NONE, NONE, 1);
        place("all narrow", z, 4, 3, 1, 1, 0, NONE, NONE, 1);
        StickPairs m = started(2, 2, 1, 2, 2, 1, 4);
        place("mirrored", m, 0, 0, 0, 0, 2, 2, 0, 1);
        place("mirrored", m, 2, 1, 0, 0, 2, 3, 1, 1);
        m.pull(1);
        place("half a mirror", m, 2, 1, 0, NONE, 2, 3, 1, 1);
        m.fail(3);
        place("no mirror", m, 2, 1, 0, NONE, 2, 3, 1, 0);
        for (int block : new int[] {-1, 4, Integer.MIN_VALUE, Integer.MAX_VALUE}) {
            Check.noIndex("where outside", m, () -> m.where(block, 0));
            Check.noIndex("where all wrong", m, () -> m.where(block, 7));
        }
        for (int what : new int[] {-1, 7, Integer.MIN_VALUE, Integer.MAX_VALUE}) {
            Check.noArgument("where's number", m, () -> m.where(0, what));
        }
        Check.look("where", m, () -> m.where(3, 5), 2);
    }

    private static void promise20Lies() {
        StickPairs x = started(0, 2, 1, 1, 3, 2, 1);
        liesAll("wide", x, 0, 0);
        liesAll("wide", x, 1, 2, 4, 6);
        liesAll("wide", x, 2, 1, 3);
        liesAll("wide", x, 3, 5);
        x.fail(0);
        x.pull(1);
        liesAll("failed", x, 0, 0);
        liesAll("pulled", x, 1, 2, 4, 6);
        x.plug(1, 12, 1, 1);
        liesAll("plugged late", x, 1, 2, 4, 6);
        x.start();
        liesAll("failed before the start", x, 0);
        liesAll("greater", x, 1, 0, 2, 4, 6, 7, 8, 9, 10, 11, 12, 13, 14);
        x.stop();
        liesAll("stopped", x, 1);
        StickPairs y = started(1, 1, 1, 2, 1, 0, 2);
        liesAll("narrow", y, 0, 0, 1);
        liesAll("narrow", y, 1, 2);
        liesAll("narrow", y, 2);
        liesAll("narrow", y, 3, 3, 4);
        StickPairs m = started(2, 1, 1, 2, 2, 1, 4);
        liesAll("mirrored", m, 1, 2, 3);
        liesAll("mirrored", m, 2, 0);
        liesAll("mirrored", m, 3, 1, 2, 3);
        StickPairs late = started(0, 1, 1, 2);
        late.plug(1, 2, 1, 1);
        liesAll("in no map", late, 1);
        for (int wrong : new int[] {-1, 12, Integer.MIN_VALUE, Integer.MAX_VALUE}) {
            Check.noIndex("lies, number", m, () -> m.lies(0, wrong));
            Check.noIndex("lies, slot", m, () -> m.lies(wrong == 12 ? 4 : wrong, 0));
        }
    }

    private static void promise21Count() {
        StickPairs x = started(0, 1, 3, 4, 0, 2, 1);
        x.write(0, 40);
        x.write(1, 30);
        x.write(5, 20);
        x.write(6, 10);
        run(x, "0-3");
        x.read(6);
        counts("count", x, 3, 0, 7, 6, 7, 5, 2, 4, 0, 1, 100, 6);
        x.fail(2);
        counts("count, failed", x, 3, 1, 7, 6, 7, 5, 2, 4, 2, 1, 70, 6);
        x.pull(0);
        counts("count, pulled", x, 2, 1, 7, 6, 7, 5, 2, 4, 6, 1, 20, 6);
        x.start();
        counts("count, started", x, 2, 1, 1, 0, 7, 5, 2, 4, 0, 2, 0, 6);
        x.stop();
        counts("count, stopped", x, 2, 1, 0, 0, 7, 5, 2, 4, 0, 2, 0, 6);
        for (int what : new int[] {-1, 12, Integer.MIN_VALUE, Integer.MAX_VALUE}) {
            Check.noArgument("count", x, () -> x.count(what));
        }
        Check.look("count", x, () -> x.count(9), 2);
        StickPairs m = started(2, 1, 1, 3, 0, 3);
        m.write(1, 8);
        counts("mirrored counts once", m, 2, 0, 3, 0, 0, 0, 0, 0, 0, 1, 8);
        m.fail(0);
        counts("half a mirror is left", m, 2, 1, 3, 0, 0, 0, 0, 0, 0, 1, 8);
        m.fail(2);
        counts("no mirror is left", m, 2, 2, 3, 0, 0, 0, 0, 0, 3, 1, 0);
    }

    private static void promise22Setting() {
        StickPairs x = new StickPairs();
        Check.look("setting", x, () -> x.setting(0), 0);
        Check.look("setting", x, () -> x.setting(1), 1);
        x.set(0, 1);
        x.set(1, 0);
        Check.look("setting", x, () -> x.setting(0), 1);
        Check.look("setting", x, () -> x.setting(1), 0);
        for (int setting : new int[] {-1, 2, Integer.MIN_VALUE, Integer.MAX_VALUE}) {
            Check.noIndex("setting", x, () -> x.setting(setting));
        }
    }

    private static void promise23Why() {
        StickPairs x = new StickPairs();
        Check.look("why, no stick", x, x::why, 1);
        x.set(0, 2);
        Check.look("why, the first reason", x, x::why, 1);
        x.plug(1, 3, 1, 1);
        Check.look("why, no mirror", x, x::why, 2);
        x.set(0, 0);
        Check.look("why, wide", x, x::why, 0);
        x.set(0, 1);
        Check.look("why, narrow", x, x::why, 0);
        x.set(0, 2);
        x.plug(3, 3, 1, 1);
        Check.look("why, mirrored", x, x::why, 0);
        x.fail(1);
        Check.look("why, a failed channel", x, x::why, 2);
        x.fail(3);
        Check.look("why, all failed", x, x::why, 1);
    }

    private static void promise24Sweep() {
        StickPairs x = with(1, 2, 5, 3, 4);
        x.set(1, 0);
        x.rest(50);
        Check.look("sweep wide", x, () -> x.sweep(0), 14);
        Check.look("sweep narrow", x, () -> x.sweep(1), 21);
        Check.look("sweep mirrored", x, () -> x.sweep(2), 7);
        x.start();
        run(x, "0-11");
        Check.look("sweep behind readings", x, () -> x.sweep(0), 14);
        x.pull(2);
        Check.look("sweep of one channel", x, () -> x.sweep(0), 14);
        Check.look("sweep of no mirror", x, () -> x.sweep(2), NONE);
        x.fail(1);
        Check.look("sweep without a failed one", x, () -> x.sweep(1), 9);
        x.fail(0);
        for (int map = 0; map < 3; map++) {
            int each = map;
            Check.look("sweep of nothing", x, () -> x.sweep(each), NONE);
        }
        for (int map : new int[] {-1, 3, Integer.MIN_VALUE, Integer.MAX_VALUE}) {
            Check.noArgument("sweep", x, () -> x.sweep(map));
        }
        StickPairs y = new StickPairs();
        y.plug(0, 4, 2, 3);
        y.plug(3, 4, 1, 5);
        Check.same("ranks hide the one channel alone", y.sweep(0), 16);
        Check.same("ranks hide", y.sweep(2), 5);
        Check.same("ranks hide, then not", y.sweep(1), 21);
    }

    private static void promise25IfStarted() {
        StickPairs x = with(1, 2, 5, 3, 4);
        int[][] due = {{12, 8}, {12, 0}, {4, 0}};
        for (int map = 0; map < 3; map++) {
            int each = map;
            Check.look("ifStarted blocks", x, () -> x.ifStarted(each, 0), due[map][0]);
            Check.look("ifStarted wide", x, () -> x.ifStarted(each, 1), due[map][1]);
        }
        x.start();
        x.fail(0);
        Check.look("ifStarted, failed", x, () -> x.ifStarted(0, 0), 7);
        Check.look("ifStarted, failed", x, () -> x.ifStarted(0, 1), 6);
        x.pull(2);
        Check.look("ifStarted, no mirror", x, () -> x.ifStarted(2, 0), 0);
        Check.look("ifStarted, one channel", x, () -> x.ifStarted(0, 0), 3);
        Check.look("ifStarted, one channel", x, () -> x.ifStarted(0, 1), 0);
        x.fail(1);
        Check.look("ifStarted, nothing", x, () -> x.ifStarted(1, 0), 0);
        for (int wrong : new int[] {-1, 3, Integer.MIN_VALUE, Integer.MAX_VALUE}) {
            Check.noArgument("ifStarted, map", x, () -> x.ifStarted(wrong, 0));
            Check.noArgument("ifStarted, what", x, () -> x.ifStarted(0, wrong == 3 ? 2 : wrong));
        }
    }

    private static void promise26BestChange() {
        StickPairs x = with(1, 2, 5, 3, 4);
        Check.look("bestChange, the least of several", x, x::bestChange, 2);
        x.plug(3, 12, 2, 1);
        Check.look("bestChange", x, x::bestChange, 3);
        Check.same("bestChange of nothing", new StickPairs().bestChange(), NONE);
        Check.same("bestChange of one", with(1, 1, 5).bestChange(), NONE);
        Check.same("bestChange to an empty slot", with(1, 1, 5, 4).bestChange(), 2);
        Check.same("bestChange, 3 as good as 6", with(1, 1, 5, 4, 0, 1).bestChange(), 3);
        Check.same("bestChange, none is better", with(1, 1, 1, 6, 1, 2).bestChange(), NONE);
        Check.same("bestChange, 2 as good as 7", with(1, 1, 6, 4, 3, 1).bestChange(), 2);
        StickPairs y = with(1, 1, 4, 4, 4, 4);
        Check.same("bestChange, all is well", y.bestChange(), NONE);
        y.fail(0);
        Check.same("bestChange, one failed", y.bestChange(), NONE);
        y.fail(1);
        Check.same("bestChange, a channel failed", y.bestChange(), 2);
        StickPairs z = started(1, 1, 1, 4, 0, 4);
        Check.look("bestChange asks no map", z, z::bestChange, NONE);
    }

    private static void promise27WideShare() {
        share("wideShare of nothing", new StickPairs().wideShare(), 0.0);
        share("wideShare before a start", with(1, 1, 4, 0, 4).wideShare(), 0.0);
        StickPairs x = started(0, 1, 1, 5, 0, 1);
        share("wideShare", x.wideShare(), 2.0 / 6.0);
        x.fail(2);
        share("wideShare, failed", x.wideShare(), 1.0 / 3.0);
        x.stop();
        share("wideShare, stopped", x.wideShare(), 0.0);
        share("wideShare, all", started(0, 1, 1, 4, 0, 0, 4).wideShare(), 1.0);
        share("wideShare, narrow", started(1, 1, 1, 4, 0, 0, 4).wideShare(), 0.0);
        share("wideShare, mirrored", started(2, 1, 1, 4, 0, 0, 4).wideShare(), 0.0);
    }

    private static void promise28MeanTicks() {
        StickPairs x = started(0, 1, 4, 3, 0, 3);
        mean("meanTicks of nothing", x.meanTicks(), 0.0f);
        x.rest(9);
        mean("meanTicks, none read", x.meanTicks(), 0.0f);
        run(x, "0-2");
        mean("meanTicks", x.meanTicks(), 14.0f / 3.0f);
        x.undo();
        mean("meanTicks, undone", x.meanTicks(), 0.0f);
        StickPairs y = started(0, 1, 1, 6, 0, 6);
        run(y, "0-11");
        mean("meanTicks below 1", y.meanTicks(), 0.5f);
    }

    private static void promise29Digest() {
        StickPairs x = new StickPairs();
        long empty = 3691;
        int[] head = {0, 0, 0, 0, 0, 0, 0, 0, 0, 0, 0, 0, 0, 1};
        for (int v : head) {
            empty = 31 * empty + v;
        }
        for (int i = 0; i < 4 * 20; i++) {
            empty = 31 * empty - 1;
        }
        int[] tail = {1, -1, -1, -1, 0, 0, 0, 0, 0, 0, -1, 0, 0, 0, 0};
        for (int v : tail) {
            empty = 31 * empty + v;
        }
        Check.look("digest of a new object", x, x::digest, empty);
        type(x, "!~");
        Check.same("digest tells the buffer", x.digest(), ((empty + 2) * 31 + '!') * 31 + '~');
        x.clearBuffer();
        x.keep();
        Check.same("digest tells the snapshot", x.digest(), empty + 31);
        StickPairs y = started(0, 2, 5, 4, 0, 2);
        y.write(3, 77);
        run(y, "0-5");
        Check.same("digest of a machine", y.digest(), digestOf(y, 77));
    }

    /** The digest by the face's own answers, for a machine whose block 3 alone holds a value. */
    private static long digestOf(StickPairs x, int third) {
        long hash = 3691;
        for (int what = 0; what < 12; what++) {
            hash = 31 * hash + x.count(what);
        }
        hash = 31 * (31 * hash + x.setting(0)) + x.setting(1);
        for (int slot = 0; slot < 4; slot++) {
            for (int what = 0; what < 8; what++) {
                hash = 31 * hash + x.slot(slot, what);
            }
            for (int number = 0; number < 12; number++) {
                hash = 31 * hash + x.lies(slot, number);
            }
        }
        for (int block = 0; block < x.count(2); block++) {
            for (int what = 0; what < 7; what++) {
                hash = 31 * hash + x.where(block, what);
            }
            hash = 31 * hash + (block == 3 ? third : 0);
        }
        hash = 31 * hash + x.why();
        hash = 31 * (31 * (31 * hash + x.sweep(0)) + x.sweep(1)) + x.sweep(2);
        for (int map = 0; map < 3; map++) {
            hash = 31 * (31 * hash + x.ifStarted(map, 0)) + x.ifStarted(map, 1);
        }
        hash = 31 * hash + x.bestChange();
        hash = 31 * hash + Double.doubleToLongBits(x.wideShare());
        hash = 31 * hash + Float.floatToIntBits(x.meanTicks());
        return 31 * (31 * hash);
    }

    public static void main(String[] args) {
        promise1NewObject();
        promise2Plug();
        promise3Pull();
        promise4Fail();
        promise5Start();
        promise6Stop();
        promise7Write();
        promise8Read();
        promise9Rest();
        promise10Set();
        promise11Append();
        promise12ClearBuffer();
        promise13FirstError();
        promise14Run();
        promise15Keep();
        promise16GoBack();
        promise17Undo();
        promise18Slot();
        promise19Where();
        promise20Lies();
        promise21Count();
        promise22Setting();
        promise23Why();
        promise24Sweep();
        promise25IfStarted();
        promise26BestChange();
        promise27WideShare();
        promise28MeanTicks();
        promise29Digest();
        Check.end("PromiseTest");
    }
}
