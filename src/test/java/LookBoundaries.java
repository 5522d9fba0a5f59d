/** The sentences on looks and on what would be: the promises 18 to 29. */
final class LookBoundaries extends Machines {
    private LookBoundaries() {
    }

    static void all() {
        noneConstant();
        slot();
        slotSlot();
        slotReturns();
        slotNoSlot();
        slotNoNumber();
        slotNumbers();
        where();
        whereBlock();
        whereNoBlock();
        whereNoNumber();
        whereNumbers();
        whereReturns();
        lies();
        liesSlot();
        liesNumber();
        liesReturns();
        liesRefused();
        count();
        countReturns();
        countRefused();
        countNumbers();
        setting();
        settingReturns();
        settingSetting();
        settingRefused();
        why();
        whyReturns();
        sweep();
        sweepMap();
        sweepReturns();
        sweepRefused();
        ifStarted();
        ifStartedMap();
        ifStartedWhat();
        ifStartedReturns();
        ifStartedRefused();
        bestChange();
        bestChangeReturns();
        wideShare();
        wideShareReturns();
        meanTicks();
        meanTicksReturns();
        DigestBoundaries.all();
    }

    private static void noneConstant() {
        Sentences.terms(18, "The constants: `NONE = -1`: There is nothing to return.");
        Check.same("NONE", StickPairs.NONE, -1);
        Check.same("no stick", new StickPairs().slot(0, 0), -1);
    }

    private static void slot() {
        Sentences.of(18, "Tells something of a slot.");
        StickPairs x = started(0, 2, 5, 12, 1, 2);
        int[] due = {12, 2, 5, 0, 1, 0, 0, 0};
        for (int what = 0; what <= 7; what++) {
            int each = what;
            Check.look("slot(0, " + what + ")", x, () -> x.slot(0, each), due[what]);
        }
    }

    private static void slotSlot() {
        Sentences.of(18, "- `slot`: 0 to 3");
        StickPairs four = with(1, 1, 12, 1, 7, 3);
        Check.same("the first", four.slot(0, 0), 12);
        Check.same("the second", four.slot(1, 0), 1);
        Check.same("the third", four.slot(2, 0), 7);
        Check.same("the last", four.slot(3, 0), 3);
    }

    private static void slotReturns() {
        Sentences.of(18, "Returns the number; NONE if there is no stick, or, for 6, if it has 1 rank.");
        StickPairs x = with(1, 1, 3);
        numbers("1 rank", x, 0, 3, 1, 1, 0, 0, 0, NONE, 0);
        numbers("no stick", x, 3, NONE, NONE, NONE, NONE, NONE, NONE, NONE, NONE);
        x.start();
        x.read(0);
        x.pull(0);
        numbers("a stick that was pulled out", x, 0, NONE, NONE, NONE, NONE, NONE, NONE, NONE, NONE);
        x.plug(0, 1, 2, 1);
        numbers("2 ranks, of which one is used", x, 0, 1, 2, 1, 0, 0, 0, 0, 0);
    }

    private static void slotNoSlot() {
        Sentences.of(18, "Throws `IndexOutOfBoundsException` if there is no such slot");
        StickPairs x = with(1, 1, 12, 1, 7, 3);
        for (int slot : outside(0, 3)) {
            Check.noIndex("slot(" + slot + ", 0)", x, () -> x.slot(slot, 0));
        }
    }

    private static void slotNoNumber() {
        Sentences.of(18, "Throws `IllegalArgumentException` if what is not 0 to 7");
        StickPairs x = with(1, 1, 12, 1, 7);
        for (int what : outside(0, 7)) {
            Check.noArgument("slot(0, " + what + ")", x, () -> x.slot(0, what));
            Check.noArgument("slot(3, " + what + ") without a stick", x, () -> x.slot(3, what));
        }
    }

    private static void slotNumbers() {
        Sentences.of(18, "- `what`: 0: the size of its stick; 1: its ranks; 2: its delay; 3: 1 if it has failed, "
                + "otherwise 0; 4: 1 if it is in the map, otherwise 0 (one that failed since the start still is); "
                + "5: from which tick on its rank 0 is free; 6: from which tick on its rank 1 is free; 7: how "
                + "often its blocks were read so far");
        StickPairs x = with(2, 5, 12, 0, 1);
        numbers("before a start", x, 0, 12, 2, 5, 0, 0, 0, 0, 0);
        x.rest(3);
        x.start();
        numbers("started", x, 0, 12, 2, 5, 0, 1, 3, 3, 0);
        run(x, "0-1");
        numbers("a pair read", x, 0, 12, 2, 5, 0, 1, 8, 3, 1);
        numbers("a pair read", x, 2, 1, 2, 5, 0, 1, 8, 3, 1);
        x.read(2);
        numbers("its rank 1 read", x, 0, 12, 2, 5, 0, 1, 8, 9, 2);
        x.fail(0);
        numbers("failed since the start", x, 0, 12, 2, 5, 1, 1, 8, 9, 2);
        x.start();
        numbers("failed before the start", x, 0, 12, 2, 5, 1, 0, 5, 5, 2);
        numbers("how often counts on behind a start", x, 2, 1, 2, 5, 0, 1, 5, 5, 1);
        x.stop();
        numbers("stopped", x, 2, 1, 2, 5, 0, 0, 5, 5, 1);
        x.plug(1, 2, 1, 1);
        numbers("plugged without a map", x, 1, 2, 1, 1, 0, 0, 0, NONE, 0);
    }

    private static void where() {
        Sentences.of(19, "Tells where a block lies.");
        StickPairs x = started(0, 2, 1, 1, 3, 2, 1);
        int[] due = {1, 2, 0, 0, NONE, NONE, 1};
        for (int what = 0; what <= 6; what++) {
            int each = what;
            Check.look("where(6, " + what + ")", x, () -> x.where(6, each), due[what]);
        }
    }

    private static void whereBlock() {
        Sentences.of(19, "- `block`: its number");
        StickPairs all = started(0, 2, 1, 12, 12, 12, 12);
        place("the first", all, 0, 0, 0, 0, 1, NONE, NONE, 1);
        place("the last", all, 47, 3, 11, 1, 1, NONE, NONE, 1);
        StickPairs one = started(2, 1, 1, 1, 0, 1);
        place("the only one", one, 0, 0, 0, 0, 2, 2, 0, 1);
    }

    private static void whereNoBlock() {
        Sentences.of(19, "Throws `IndexOutOfBoundsException` if there is no such block in the map");
        StickPairs all = started(0, 2, 1, 12, 12, 12, 12);
        StickPairs one = started(2, 1, 1, 1, 0, 1);
        StickPairs none = with(1, 1, 4);
        Check.noIndex("without a map", none, () -> none.where(0, 0));
        for (int block : outside(0, 47)) {
            Check.noIndex("where(" + block + ", 0)", all, () -> all.where(block, 0));
        }
        for (int block : outside(0, 0)) {
            Check.noIndex("where(" + block + ", 0)", one, () -> one.where(block, 0));
        }
    }

    private static void whereNoNumber() {
        Sentences.of(19, "Throws `IllegalArgumentException` if what is not 0 to 6");
        StickPairs x = started(2, 1, 1, 1, 0, 1);
        for (int what : outside(0, 6)) {
            Check.noArgument("where(0, " + what + ")", x, () -> x.where(0, what));
        }
    }

    private static void whereNumbers() {
        Sentences.of(19, "- `what`: 0: its slot; 1: its number in the stick; 2: its rank; 3: 1 if it is wide, 0 if "
                + "it is narrow, 2 if it is mirrored; 4: the slot where it lies again; 5: its number in that "
                + "stick; 6: 1 if a stick is left for it, otherwise 0");
        StickPairs x = started(0, 2, 1, 1, 3, 2, 1);
        place("the last wide one", x, 5, 3, 0, 0, 1, NONE, NONE, 1);
        place("the first narrow one", x, 6, 1, 2, 0, 0, NONE, NONE, 1);
        x.fail(1);
        place("failed", x, 6, 1, 2, 0, 0, NONE, NONE, 0);
        place("of another stick", x, 5, 3, 0, 0, 1, NONE, NONE, 1);
        StickPairs mirrored = started(2, 2, 1, 2, 2, 1, 4);
        place("mirrored", mirrored, 3, 1, 1, 1, 2, 3, 2, 1);
        mirrored.fail(1);
        place("the first place failed", mirrored, 3, 1, 1, 1, 2, 3, 2, 1);
        mirrored.fail(3);
        place("both places failed", mirrored, 3, 1, 1, 1, 2, 3, 2, 0);
        place("the other blocks", mirrored, 0, 0, 0, 0, 2, 2, 0, 1);
    }

    private static void whereReturns() {
        Sentences.of(19, "Returns the number; NONE for 4 and 5, if it is not mirrored, and for 2, if its stick was "
                + "pulled out.");
        StickPairs x = started(1, 2, 1, 2, 0, 2);
        place("narrow", x, 3, 2, 1, 1, 0, NONE, NONE, 1);
        x.pull(2);
        place("pulled out", x, 3, 2, 1, NONE, 0, NONE, NONE, 0);
        x.plug(2, 2, 2, 1);
        place("a new one in its slot", x, 3, 2, 1, NONE, 0, NONE, NONE, 0);
        x.fail(0);
        place("failed", x, 1, 0, 1, 1, 0, NONE, NONE, 0);
        x.pull(0);
        place("failed, then pulled out", x, 1, 0, 1, NONE, 0, NONE, NONE, 0);
        x.undo();
        place("undone", x, 1, 0, 1, 1, 0, NONE, NONE, 0);
        StickPairs again = started(2, 2, 1, 2, 0, 2);
        again.pull(2);
        place("its other stick was pulled out", again, 1, 0, 1, 1, 2, 2, 1, 1);
        again.pull(0);
        place("both were pulled out", again, 1, 0, 1, NONE, 2, 2, 1, 0);
    }

    private static void lies() {
        Sentences.of(20, "Tells which block lies at a place, a second way: by the sizes of the sticks alone, as "
                + "they were when the machine started.");
        StickPairs x = started(0, 1, 1, 3, 0, 2);
        liesAll("started", x, 0, 0, 2, 4);
        x.fail(0);
        x.pull(2);
        liesAll("failed since", x, 0, 0, 2, 4);
        liesAll("pulled since", x, 2, 1, 3);
        x.plug(2, 12, 1, 1);
        x.plug(1, 12, 1, 1);
        liesAll("a greater one in its slot", x, 2, 1, 3);
        liesAll("plugged since", x, 1);
        x.set(0, 2);
        liesAll("the setting is another one", x, 0, 0, 2, 4);
        for (int map = 0; map <= 2; map++) {
            agree(started(map, 1, 1, 12, 12, 12, 12));
            agree(started(map, 1, 1, 1, 2, 0, 12));
            agree(started(map, 1, 1, 0, 12, 2, 1));
            agree(started(map, 1, 1, 1, 0, 1, 0));
        }
    }

    private static void liesSlot() {
        Sentences.of(20, "- `slot`: 0 to 3");
        StickPairs x = started(1, 1, 1, 1, 2, 3, 4);
        liesAll("the first", x, 0, 0);
        liesAll("the second", x, 1, 1, 2);
        liesAll("the third", x, 2, 3, 4, 5);
        liesAll("the last", x, 3, 6, 7, 8, 9);
    }

    private static void liesNumber() {
        Sentences.of(20, "- `number`: its number in the stick, 0 to 11");
        StickPairs all = started(0, 1, 1, 12, 12, 12, 12);
        int[][] ends = {{0, 0, 0}, {0, 11, 22}, {1, 0, 24}, {1, 11, 46}, {2, 0, 1}, {2, 11, 23}, {3, 0, 25},
            {3, 11, 47}};
        for (int[] end : ends) {
            Check.look("lies(" + end[0] + ", " + end[1] + ")", all, () -> all.lies(end[0], end[1]), end[2]);
        }
    }

    private static void liesReturns() {
        Sentences.of(20, "Returns the block; NONE if there is none (the slot is in no map, or its stick was not so "
                + "large, or the place is not used).");
        StickPairs x = with(1, 1, 3, 1, 2);
        liesAll("without a map", x, 0);
        x.fail(1);
        x.set(0, 2);
        x.start();
        liesAll("failed before the start", x, 1);
        liesAll("an empty slot", x, 3);
        liesAll("the place 2 is not used", x, 0, 0, 1);
        liesAll("a size of 2", x, 2, 0, 1);
        x.stop();
        liesAll("stopped", x, 0);
        StickPairs second = started(2, 1, 1, 2, 3, 3, 3);
        liesAll("all places are used", second, 1, 2, 3, 4);
        liesAll("the last place is not used", second, 3, 3, 4);
        StickPairs none = started(2, 1, 1, 2, 3, 2);
        liesAll("no place is used", none, 1);
    }

    private static void liesRefused() {
        Sentences.of(20, "Throws `IndexOutOfBoundsException` if there is no such slot or number");
        StickPairs all = started(0, 1, 1, 12, 12, 12, 12);
        for (int slot : outside(0, 3)) {
            Check.noIndex("lies(" + slot + ", 0)", all, () -> all.lies(slot, 0));
        }
        for (int number : outside(0, 11)) {
            Check.noIndex("lies(0, " + number + ")", all, () -> all.lies(0, number));
            Check.noIndex("lies(3, " + number + ") without a map", new StickPairs(),
                    () -> new StickPairs().lies(3, number));
        }
        Check.noIndex("none of both", all, () -> all.lies(4, 12));
    }

    /** Each place that where tells is told by lies, and no other one. */
    private static void agree(StickPairs x) {
        int places = 0;
        for (int block = 0; block < x.count(2); block++) {
            Check.same("lies of where", x.lies(x.where(block, 0), x.where(block, 1)), block);
            places++;
            if (x.where(block, 4) != NONE) {
                Check.same("lies of where again", x.lies(x.where(block, 4), x.where(block, 5)), block);
                places++;
            }
        }
        for (int place = 0; place < 48; place++) {
            places -= x.lies(place / 12, place % 12) == NONE ? 0 : 1;
        }
        Check.same("places that lies tells besides", -places, 0);
    }

    private static void count() {
        Sentences.of(21, "Returns a number.");
        StickPairs x = started(1, 1, 1, 12, 12, 12, 12);
        fill(x, 99);
        int[] due = {4, 0, 48, 0, 0, 0, 0, 0, 0, 1, 48 * 99, 6};
        for (int what = 0; what <= 11; what++) {
            int each = what;
            Check.look("count(" + what + ")", x, () -> x.count(each), due[what]);
        }
    }

    private static void countReturns() {
        Sentences.of(21, "Returns the number.");
        StickPairs x = started(0, 1, 3, 12, 12, 12, 12);
        Check.same("wide blocks at most", x.count(3), 48);
        for (int slot = 0; slot <= 3; slot++) {
            x.fail(slot);
            Check.same("failed", x.count(1), slot + 1);
            Check.same("blocks that are lost", x.count(8), 12 * slot + 12);
        }
        for (int slot = 0; slot <= 3; slot++) {
            x.pull(slot);
            Check.same("sticks", x.count(0), 3 - slot);
            Check.same("failed", x.count(1), 3 - slot);
            Check.same("blocks that are lost stay", x.count(8), 48);
        }
    }

    private static void countRefused() {
        Sentences.of(21, "Throws `IllegalArgumentException` if what is not 0 to 11");
        StickPairs x = new StickPairs();
        for (int what : outside(0, 11)) {
            Check.noArgument("count(" + what + ")", x, () -> x.count(what));
        }
    }

    private static void countNumbers() {
        Sentences.of(21, "- `what`: 0: sticks; 1: those that have failed; 2: blocks of the map, 0 without one; 3: "
                + "wide blocks of it; 4: the tick; 5: blocks read so far; 6: pairs read so far; 7: ticks that were "
                + "waited for ranks so far; 8: blocks for which no stick is left; 9: starts so far; 10: the sum of "
                + "the values of all blocks for which a stick is left; 11: saved states");
        StickPairs x = new StickPairs();
        counts("a new object", x, 0, 0, 0, 0, 0, 0, 0, 0, 0, 0, 0, 0);
        x.plug(0, 3, 1, 3);
        x.plug(2, 2, 1, 3);
        counts("without a map", x, 2, 0, 0, 0, 0, 0, 0, 0, 0, 0, 0, 2);
        x.start();
        fill(x, 99);
        run(x, "0-4");
        counts("read", x, 2, 0, 5, 4, 7, 5, 2, 4, 0, 1, 5 * 99, 6);
        x.fail(2);
        counts("failed", x, 2, 1, 5, 4, 7, 5, 2, 4, 2, 1, 3 * 99, 6);
        x.pull(0);
        counts("none is left", x, 1, 1, 5, 4, 7, 5, 2, 4, 5, 1, 0, 6);
        x.stop();
        counts("stopped", x, 1, 1, 0, 0, 7, 5, 2, 4, 0, 1, 0, 6);
        x.plug(1, 1, 1, 1);
        x.start();
        counts("started anew", x, 2, 1, 1, 0, 7, 5, 2, 4, 0, 2, 0, 6);
        x.undo();
        counts("the start is undone", x, 2, 1, 0, 0, 7, 5, 2, 4, 0, 1, 0, 5);
        StickPairs mirrored = started(2, 1, 1, 2, 0, 2);
        fill(mirrored, 99);
        Check.same("mirrored values count once", mirrored.count(10), 198);
        mirrored.fail(0);
        Check.same("one of both is left", mirrored.count(10), 198);
        Check.same("no block is lost", mirrored.count(8), 0);
        mirrored.pull(2);
        Check.same("none of both is left", mirrored.count(10), 0);
        Check.same("all blocks are lost", mirrored.count(8), 2);
        StickPairs most = started(1, 1, 1, 12, 12, 12, 12);
        fill(most, 99);
        Check.same("the greatest sum", most.count(10), 48 * 99);
        Check.look("a look", most, () -> most.count(11), 6);
    }

    private static void setting() {
        Sentences.of(22, "Returns a setting.");
        StickPairs x = new StickPairs();
        Check.look("the map at first", x, () -> x.setting(0), 0);
        Check.look("pairs at first", x, () -> x.setting(1), 1);
    }

    private static void settingReturns() {
        Sentences.of(22, "Returns its value.");
        StickPairs x = new StickPairs();
        x.set(0, 2);
        x.set(1, 0);
        Check.look("the map", x, () -> x.setting(0), 2);
        Check.look("pairs", x, () -> x.setting(1), 0);
        x.undo();
        x.undo();
        Check.look("the map, undone", x, () -> x.setting(0), 0);
        Check.look("pairs, undone", x, () -> x.setting(1), 1);
    }

    private static void settingSetting() {
        Sentences.of(22, "- `setting`: 0 or 1");
        StickPairs x = new StickPairs();
        for (int map = 0; map <= 2; map++) {
            for (int pairs = 0; pairs <= 1; pairs++) {
                x.set(0, map);
                x.set(1, pairs);
                Check.same("the map", x.setting(0), map);
                Check.same("pairs", x.setting(1), pairs);
            }
        }
    }

    private static void settingRefused() {
        Sentences.of(22, "Throws `IndexOutOfBoundsException` if there is no such setting");
        StickPairs x = new StickPairs();
        for (int setting : outside(0, 1)) {
            Check.noIndex("setting(" + setting + ")", x, () -> x.setting(setting));
        }
    }

    private static void why() {
        Sentences.of(23, "Tells why the machine does not start.");
        StickPairs x = with(1, 1, 0, 0, 1, 12);
        x.start();
        x.set(0, 2);
        Check.look("one channel", x, x::why, 2);
        Check.noState("start", x, x::start);
        x.plug(1, 1, 1, 1);
        Check.look("both channels", x, x::why, 0);
        Check.same("start", x.start(), 1);
        x.pull(1);
        Check.look("it runs, though it does not start anew", x, x::why, 2);
        Check.same("blocks", x.count(2), 1);
        x.fail(2);
        x.fail(3);
        Check.look("failed ones alone", x, x::why, 1);
        Check.noState("start", x, x::start);
        x.pull(2);
        x.pull(3);
        Check.look("all pulled out", x, x::why, 1);
    }

    private static void whyReturns() {
        Sentences.of(23, "Returns 0 if it does, otherwise 1 or 2.");
        StickPairs x = new StickPairs();
        for (int map = 0; map <= 2; map++) {
            x.set(0, map);
            Check.look("no stick, map " + map, x, x::why, 1);
        }
        x.plug(2, 1, 1, 1);
        for (int map = 0; map <= 2; map++) {
            x.set(0, map);
            Check.look("one stick, map " + map, x, x::why, map == 2 ? 2 : 0);
        }
        x.plug(1, 1, 1, 1);
        for (int map = 0; map <= 2; map++) {
            x.set(0, map);
            Check.look("one stick in each channel, map " + map, x, x::why, 0);
        }
    }

    private static StickPairs readAllOf(StickPairs x) {
        x.start();
        run(x, "0-47");
        return x;
    }

    private static void sweep() {
        Sentences.of(24, "Tells how long a sweep takes, if the machine was started anew now with a map: all blocks "
                + "are read once, from the block 0 on, pairs as pairs whatever setting 1 is.");
        StickPairs x = with(1, 2, 5, 3, 4);
        Check.look("wide", x, () -> x.sweep(0), 14);
        Check.look("narrow", x, () -> x.sweep(1), 21);
        Check.look("mirrored", x, () -> x.sweep(2), 7);
        x.set(1, 0);
        x.set(0, 2);
        Check.look("wide, without pairs by the setting", x, () -> x.sweep(0), 14);
        readAllOf(x);
        Check.look("ranks that are not free do not matter", x, () -> x.sweep(1), 21);
        x.fail(1);
        Check.look("without a failed one", x, () -> x.sweep(0), 5 + 4);
        StickPairs three = unlikeThree();
        Check.look("unlike sticks, wide", three, () -> three.sweep(0), 14);
        Check.look("unlike sticks, narrow", three, () -> three.sweep(1), 19);
        Check.look("unlike sticks, mirrored", three, () -> three.sweep(2), 5);
        StickPairs all = with(2, 9, 12, 12, 12, 12);
        for (int map = 0; map <= 2; map++) {
            all.set(0, map);
            all.start();
            int before = all.count(4);
            run(all, "0-47");
            Check.look("as long as run takes, map " + map, all, () -> all.sweep(all.setting(0)), all.count(4) - before);
        }
    }

    private static void sweepMap() {
        Sentences.of(24, "- `map`: 0 to 2");
        StickPairs one = with(1, 9, 1, 0, 1);
        Check.same("one pair", one.sweep(0), 1);
        Check.same("two in two sticks", one.sweep(1), 2);
        Check.same("one", one.sweep(2), 1);
    }

    private static void sweepReturns() {
        Sentences.of(24, "Returns by how many ticks the tick becomes more from the start to the end of it; NONE if "
                + "it does not start so.");
        StickPairs x = with(1, 9, 2);
        x.rest(99);
        Check.look("from a later tick on", x, () -> x.sweep(0), 10);
        Check.look("with an m of 0", x, () -> x.sweep(1), 10);
        Check.look("no mirror", x, () -> x.sweep(2), NONE);
        x.fail(0);
        StickPairs none = new StickPairs();
        for (int map = 0; map <= 2; map++) {
            int each = map;
            Check.look("failed ones alone, map " + map, x, () -> x.sweep(each), NONE);
            Check.look("no stick, map " + map, none, () -> none.sweep(each), NONE);
        }
    }

    private static void sweepRefused() {
        Sentences.of(24, "Throws `IllegalArgumentException` if map is out of range");
        StickPairs x = with(1, 2, 5, 3, 4);
        StickPairs none = new StickPairs();
        for (int map : outside(0, 2)) {
            Check.noArgument("sweep(" + map + ")", x, () -> x.sweep(map));
            Check.noArgument("sweep(" + map + ") without a stick", none, () -> none.sweep(map));
        }
    }

    private static void ifStarted() {
        Sentences.of(25, "Tells how many blocks there would be, if the machine was started anew now with a map.");
        StickPairs x = with(1, 1, 12, 12, 12, 12);
        Check.look("wide", x, () -> x.ifStarted(0, 0), 48);
        Check.look("wide ones", x, () -> x.ifStarted(0, 1), 48);
        x.set(0, 1);
        x.start();
        x.fail(0);
        Check.look("without a failed one", x, () -> x.ifStarted(0, 0), 36);
        Check.look("wide ones without a failed one", x, () -> x.ifStarted(0, 1), 24);
        Check.look("narrow", x, () -> x.ifStarted(1, 0), 36);
        Check.look("wide ones, narrow", x, () -> x.ifStarted(1, 1), 0);
        Check.same("the map stays", x.count(2), 48);
    }

    private static void ifStartedMap() {
        Sentences.of(25, "- `map`: 0 to 2");
        StickPairs x = with(1, 1, 5, 3, 4);
        Check.look("wide", x, () -> x.ifStarted(0, 0), 12);
        Check.look("narrow", x, () -> x.ifStarted(1, 0), 12);
        Check.look("mirrored", x, () -> x.ifStarted(2, 0), 4);
        x.set(0, 2);
        Check.look("whatever the setting is", x, () -> x.ifStarted(0, 0), 12);
    }

    private static void ifStartedWhat() {
        Sentences.of(25, "- `what`: 0: blocks; 1: wide blocks");
        StickPairs x = with(1, 1, 5, 3, 4);
        Check.look("wide, wide blocks", x, () -> x.ifStarted(0, 1), 8);
        Check.look("narrow, wide blocks", x, () -> x.ifStarted(1, 1), 0);
        Check.look("mirrored, wide blocks", x, () -> x.ifStarted(2, 1), 0);
        Check.look("blocks", x, () -> x.ifStarted(0, 0), 12);
    }

    private static void ifStartedReturns() {
        Sentences.of(25, "Returns how many; 0 if it does not start so.");
        StickPairs one = with(1, 1, 0, 0, 0, 1);
        Check.look("one, wide", one, () -> one.ifStarted(0, 0), 1);
        Check.look("one, no pair", one, () -> one.ifStarted(0, 1), 0);
        Check.look("one, mirrored", one, () -> one.ifStarted(2, 0), 0);
        StickPairs none = new StickPairs();
        for (int map = 0; map <= 2; map++) {
            int each = map;
            Check.look("no stick, map " + map, none, () -> none.ifStarted(each, 0), 0);
            Check.look("no stick, map " + map, none, () -> none.ifStarted(each, 1), 0);
        }
    }

    private static void ifStartedRefused() {
        Sentences.of(25, "Throws `IllegalArgumentException` if map or what is out of range");
        StickPairs x = with(1, 1, 5, 3, 4);
        StickPairs none = new StickPairs();
        for (int map : outside(0, 2)) {
            Check.noArgument("ifStarted(" + map + ", 0)", x, () -> x.ifStarted(map, 0));
            Check.noArgument("ifStarted(" + map + ", 2)", x, () -> x.ifStarted(map, 2));
        }
        for (int what : outside(0, 1)) {
            Check.noArgument("ifStarted(0, " + what + ")", x, () -> x.ifStarted(0, what));
            Check.noArgument("ifStarted(2, " + what + ") without a stick", none, () -> none.ifStarted(2, what));
        }
    }

    private static void best(String what, int due, int... sizes) {
        StickPairs x = with(1, 1, sizes);
        Check.look("bestChange, " + what, x, x::bestChange, due);
    }

    private static void bestChange() {
        Sentences.of(26, "Finds the best way to plug the sticks that there are: two slots can change what is in "
                + "them, once.");
        best("0 and 2", 2, 6, 7, 0, 1);
        best("0 and 2, from the channel 1", 2, 0, 1, 6, 7);
        best("0 and 3", 3, 6, 7, 1, 0);
        best("once only", 2, 12, 12, 0, 0);
        StickPairs stays = with(1, 1, 5, 4);
        stays.bestChange();
        Check.same("nothing is changed", stays.slot(0, 0), 5);
    }

    private static void bestChangeReturns() {
        Sentences.of(26, "Returns 4 times the lesser slot and the greater one, of the change behind which there "
                + "would be the most wide blocks with the map 0, of several the least number; NONE if by none "
                + "there would be more than now.");
        // A change of 0 and 2 is as good as one of 1 and 3, and 0 and 3 as 1 and 2: the rooms change sides.
        best("2 as good as 7", 2, 6, 4, 3, 1);
        best("3 as good as 6", 3, 5, 4, 0, 1);
        best("2 as good as 3, 6 and 7", 2, 4, 4, 0, 0);
        best("one more block of each", 2, 0, 0, 1, 1);
        best("nearly equal rooms", 2, 12, 12, 11, 11);
        best("no stick", NONE);
        best("one stick", NONE, 0, 0, 12);
        best("equal rooms", NONE, 12, 12, 12, 12);
        best("none is better", NONE, 1, 6, 1, 2);
        best("as many, not more", NONE, 5, 0, 3, 0);
        StickPairs x = started(1, 1, 1, 4, 0, 4);
        Check.look("more than now is asked with the map 0", x, x::bestChange, NONE);
        StickPairs failed = with(1, 1, 4, 4, 4, 4);
        failed.start();
        failed.fail(2);
        failed.fail(3);
        Check.look("failed ones have no room", failed, failed::bestChange, 2);
        failed.fail(0);
        Check.look("one alone", failed, failed::bestChange, NONE);
        failed.fail(1);
        Check.look("failed ones alone", failed, failed::bestChange, NONE);
    }

    private static void wideShare() {
        Sentences.of(27, "Returns how much is wide.");
        share("an m of 0", started(0, 1, 1, 4).wideShare(), 0.0);
        share("all", started(0, 1, 1, 12, 12, 12, 12).wideShare(), 1.0);
        share("narrow", started(1, 1, 1, 12, 12, 12, 12).wideShare(), 0.0);
        share("mirrored", started(2, 1, 1, 12, 12, 12, 12).wideShare(), 0.0);
    }

    private static void wideShareReturns() {
        Sentences.of(27, "Returns count(3) as a double, divided by count(2); 0.0 without blocks.");
        share("a new object", new StickPairs().wideShare(), 0.0);
        share("before a start", with(1, 1, 4, 0, 4).wideShare(), 0.0);
        for (int room = 1; room <= 12; room++) {
            StickPairs x = started(0, 1, 1, room, 12, 0, 1);
            share("2 of " + (room + 13), x.wideShare(), 2.0 / (room + 13));
            x.pull(3);
            share("pulled out, 2 of " + (room + 13), x.wideShare(), 2.0 / (room + 13));
            long before = x.digest();
            x.wideShare();
            Check.same("nothing is changed", x.digest(), before);
            x.stop();
            share("stopped", x.wideShare(), 0.0);
        }
    }

    private static void meanTicks() {
        Sentences.of(28, "Returns how long readings take.");
        StickPairs x = started(0, 1, 1, 12, 12, 12, 12);
        run(x, "0-47");
        mean("pairs without a wait", x.meanTicks(), 0.5f);
        StickPairs slow = started(1, 1, 9, 12);
        run(slow, "0-11");
        mean("waits of 8", slow.meanTicks(), 100.0f / 12.0f);
    }

    private static void meanTicksReturns() {
        Sentences.of(28, "Returns the tick as a float, divided by count(5); 0.0f if none was read.");
        mean("a new object", new StickPairs().meanTicks(), 0.0f);
        StickPairs x = started(0, 1, 9, 2, 0, 2);
        x.rest(99);
        mean("none was read", x.meanTicks(), 0.0f);
        x.read(0);
        mean("one was read", x.meanTicks(), 100.0f);
        x.read(1);
        x.read(1);
        mean("three were read", x.meanTicks(), 110.0f / 3.0f);
        long before = x.digest();
        x.meanTicks();
        Check.same("nothing is changed", x.digest(), before);
        x.undo();
        x.undo();
        x.undo();
        mean("none was read, by undo", x.meanTicks(), 0.0f);
        StickPairs below = started(0, 1, 1, 12, 12, 12, 12);
        run(below, "0-47");
        below.rest(1);
        mean("25 for 48", below.meanTicks(), 25.0f / 48.0f);
    }
}
