/** The sentences on writing, reading, ticks and settings, and the promises 7 to 10. */
final class MachineBoundaries extends Machines {
    private MachineBoundaries() {
    }

    static void all() {
        valueIsWritten();
        noStickToWriteTo();
        mirrors();
        ticksAtFirst();
        ranksAtFirst();
        rankIsWaitedFor();
        writingTakesNoTicks();
        pairs();
        settings();
        mapAsItStarts();
        write();
        writeBlock();
        writeValue();
        writeReturns();
        writeNoBlock();
        writeNoSuchValue();
        writeNoStick();
        read();
        readBlock();
        readReturns();
        readNoBlock();
        readNoStick();
        rest();
        restTicks();
        restReturns();
        restRefused();
        set();
        setSetting();
        setValue();
        setReturns();
        setNoSetting();
        setNoSuchValue();
    }

    private static void valueIsWritten() {
        Sentences.terms(7, "A value, 0 to 99, is written to a block: it lies where the map tells; a mirrored one "
                + "lies twice.");
        StickPairs x = started(0, 1, 1, 2, 1, 1);
        x.write(0, 99);
        x.write(3, 1);
        Check.same("in its place alone", x.read(0), 99);
        Check.same("in its place alone", x.read(1), 0);
        Check.same("in its place alone", x.read(2), 0);
        Check.same("in its place alone", x.read(3), 1);
        x.fail(1);
        Check.same("not in the stick that failed", x.read(0), 99);
        Check.same("in all", x.count(10), 99);
        StickPairs mirrored = started(2, 1, 1, 2, 0, 2);
        mirrored.write(1, 99);
        mirrored.write(0, 7);
        mirrored.pull(0);
        Check.same("in the channel 1, too", mirrored.read(1), 99);
        Check.same("in the channel 1, too", mirrored.read(0), 7);
        mirrored.undo();
        mirrored.undo();
        mirrored.undo();
        mirrored.pull(2);
        Check.same("in the channel 0, too", mirrored.read(1), 99);
        Check.same("in the channel 0, too", mirrored.read(0), 7);
    }

    private static void noStickToWriteTo() {
        Sentences.terms(7, "It can not be written if no stick is left for it: all where it would lie have failed "
                + "or are gone.");
        StickPairs wide = started(0, 1, 1, 1, 0, 1);
        wide.fail(0);
        Check.noState("a failed one", wide, () -> wide.write(0, 1));
        wide.pull(2);
        Check.noState("a pulled one", wide, () -> wide.write(1, 1));
        wide.plug(2, 1, 1, 1);
        Check.noState("a new one in its slot", wide, () -> wide.write(1, 1));
        StickPairs both = started(2, 1, 1, 1, 1, 2);
        both.fail(0);
        Check.same("one of two failed", both.write(0, 5), 0);
        both.pull(2);
        Check.noState("one failed, one is gone", both, () -> both.write(0, 5));
        Check.same("one of two is gone", both.write(1, 5), 0);
        both.pull(1);
        Check.noState("both are gone", both, () -> both.write(1, 5));
        StickPairs failed = started(2, 1, 1, 1, 0, 1);
        failed.fail(2);
        Check.same("the mirror failed", failed.write(0, 5), 0);
        failed.fail(0);
        Check.noState("both failed", failed, () -> failed.write(0, 5));
    }

    private static void mirrors() {
        Sentences.terms(8, "To read a block tells the value that lies there; a mirrored one is read in the channel "
                + "0, if its stick there is left, otherwise in the channel 1.");
        StickPairs x = started(2, 2, 4, 1, 2, 2, 1);
        fill(x, 30);
        // The block 1 is the number 0 of the slot 1, and the number 1 of the slot 2.
        Check.same("both are left", x.read(1), 30);
        numbers("read in the slot 1", x, 1, 2, 2, 4, 0, 1, 4, 0, 1);
        numbers("not in the slot 2", x, 2, 2, 2, 4, 0, 1, 0, 0, 0);
        x.fail(1);
        x.write(1, 31);
        Check.same("one failed", x.read(1), 31);
        numbers("not in the slot 1", x, 1, 2, 2, 4, 1, 1, 4, 0, 1);
        numbers("read in the slot 2", x, 2, 2, 2, 4, 0, 1, 0, 5, 1);
        Check.same("another block of the channel 0", x.read(0), 30);
        Check.same("is read there", x.slot(0, 7), 1);
        x.pull(1);
        Check.same("it is gone", x.read(1), 31);
        Check.same("read in the slot 2", x.slot(2, 7), 2);
        x.pull(2);
        Check.noState("both are gone", x, () -> x.read(1));
        x.undo();
        x.plug(1, 2, 1, 1);
        Check.same("a new stick in its slot", x.read(1), 31);
        numbers("is not read", x, 1, 2, 1, 1, 0, 0, 0, NONE, 0);
    }

    private static void ticksAtFirst() {
        Sentences.terms(21, "There are ticks, 0 at first.");
        Check.same("a new object", new StickPairs().count(4), 0);
        Check.same("with sticks", with(2, 9, 12, 12, 12, 12).count(4), 0);
        Check.same("started", started(0, 2, 9, 12, 12, 12, 12).count(4), 0);
    }

    private static void ranksAtFirst() {
        Sentences.terms(18, "A rank of a stick is free from a tick on, 0 at first.");
        StickPairs late = new StickPairs();
        late.rest(50);
        late.plug(1, 3, 2, 4);
        numbers("plugged at the tick 50", late, 1, 3, 2, 4, 0, 0, 0, 0, 0);
        late.start();
        late.read(0);
        late.pull(1);
        late.plug(1, 3, 2, 4);
        numbers("plugged in the slot of one that was read", late, 1, 3, 2, 4, 0, 0, 0, 0, 0);
    }

    private static void rankIsWaitedFor() {
        Sentences.terms(8, "When a block is read, its rank is waited for: the tick becomes the one from which the "
                + "rank is free, if that is greater; that is when it is read; the rank is free from that tick and "
                + "the delay of the stick, together, on; and the tick becomes 1 more.");
        StickPairs x = started(1, 1, 5, 2);
        x.read(0);
        counts("not waited for", x, 1, 0, 2, 0, 1, 1, 0, 0);
        Check.same("free", x.slot(0, 5), 5);
        x.rest(3);
        x.read(1);
        counts("free a tick later", x, 1, 0, 2, 0, 6, 2, 0, 1);
        Check.same("free", x.slot(0, 5), 10);
        x.rest(4);
        x.read(0);
        counts("free at the very tick", x, 1, 0, 2, 0, 11, 3, 0, 1);
        Check.same("free", x.slot(0, 5), 15);
        x.rest(5);
        x.read(0);
        counts("free a tick before", x, 1, 0, 2, 0, 17, 4, 0, 1);
        Check.same("free", x.slot(0, 5), 21);
        StickPairs quick = started(1, 1, 1, 1);
        quick.read(0);
        quick.read(0);
        counts("a delay of 1", quick, 1, 0, 1, 0, 2, 2, 0, 0);
        StickPairs slow = started(1, 1, 9, 1);
        slow.read(0);
        slow.read(0);
        counts("a delay of 9", slow, 1, 0, 1, 0, 10, 2, 0, 8);
        StickPairs ranks = started(1, 2, 9, 3);
        ranks.read(0);
        ranks.read(1);
        counts("another rank", ranks, 1, 0, 3, 0, 2, 2, 0, 0);
        ranks.read(2);
        counts("the same rank", ranks, 1, 0, 3, 0, 10, 3, 0, 7);
        numbers("the same rank", ranks, 0, 3, 2, 9, 0, 1, 18, 10, 3);
    }

    private static void writingTakesNoTicks() {
        Sentences.terms(7, "Writing takes no ticks.");
        StickPairs writes = started(0, 1, 9, 1, 0, 1);
        writes.read(0);
        writes.write(0, 9);
        writes.write(1, 9);
        counts("written", writes, 2, 0, 2, 2, 1, 1, 0, 0);
        Check.same("a rank that was not waited for", writes.slot(0, 5), 9);
        Check.same("a rank that is free", writes.slot(2, 5), 0);
    }

    private static StickPairs unlike(int delay, int otherDelay) {
        StickPairs x = new StickPairs();
        x.plug(0, 2, 1, delay);
        x.plug(2, 2, 1, otherDelay);
        x.start();
        return x;
    }

    private static void pairs() {
        Sentences.terms(14, "When a pair of wide blocks is read, 2 k and 2 k + 1, both ranks are waited for, both "
                + "are read in the same tick, and the tick becomes 1 more only.");
        StickPairs first = unlike(7, 4);
        run(first, "0-1");
        counts("none is waited for", first, 2, 0, 4, 4, 1, 2, 1, 0);
        run(first, "0-1");
        counts("the first is free later", first, 2, 0, 4, 4, 8, 4, 2, 6);
        Check.same("the first", first.slot(0, 5), 14);
        Check.same("the second", first.slot(2, 5), 11);
        StickPairs second = unlike(4, 7);
        run(second, "0-3");
        counts("the second is free later", second, 2, 0, 4, 4, 8, 4, 2, 6);
        Check.same("the first", second.slot(0, 5), 11);
        Check.same("the second", second.slot(2, 5), 14);
        second.rest(4);
        run(second, "2-3");
        counts("one alone is waited for", second, 2, 0, 4, 4, 15, 6, 3, 8);
        StickPairs same = unlike(3, 3);
        run(same, "0-3");
        counts("both are free at one tick", same, 2, 0, 4, 4, 4, 4, 2, 2);
        same.rest(2);
        run(same, "0-1");
        counts("both are free at the very tick", same, 2, 0, 4, 4, 7, 6, 3, 2);
        StickPairs three = unlikeThree();
        three.start();
        run(three, "0-7");
        counts("two sticks in one channel", three, 3, 0, 8, 8, 14, 8, 4, 10);
        numbers("all pairs", three, 0, 4, 2, 3, 0, 1, 10, 16, 4);
        numbers("the first pair", three, 2, 1, 1, 1, 0, 1, 1, NONE, 1);
        numbers("the other pairs", three, 3, 3, 1, 6, 0, 1, 19, NONE, 3);
    }

    private static void settings() {
        Sentences.terms(22, "0: the map, 0 to 2, at first 0; 1: whether a reading of a text takes pairs, 1 if it "
                + "does, 0 if not, at first 1.");
        StickPairs x = with(1, 1, 3, 0, 1);
        Check.same("the map at first", x.setting(0), 0);
        Check.same("pairs at first", x.setting(1), 1);
        x.start();
        Check.same("the map 0", x.where(0, 3), 1);
        run(x, "0-1");
        Check.same("pairs with 1", x.count(6), 1);
        x.set(1, 0);
        run(x, "0-1");
        Check.same("pairs with 0", x.count(6), 1);
        x.set(0, 1);
        x.start();
        Check.same("the map 1", x.where(0, 3), 0);
        x.set(0, 2);
        x.start();
        Check.same("the map 2", x.where(0, 3), 2);
        Check.noArgument("the map 3", x, () -> x.set(0, 3));
        Check.noArgument("pairs with 2", x, () -> x.set(1, 2));
    }

    private static void mapAsItStarts() {
        Sentences.terms(10, "By setting 0, as it is when the machine starts:");
        StickPairs x = with(1, 1, 3, 0, 1);
        x.set(0, 2);
        x.set(0, 1);
        Check.same("the last one that was set", x.start(), 4);
        Check.same("the last one that was set", x.count(3), 0);
        x.set(0, 2);
        Check.same("not one that is set later", x.count(2), 4);
        x.start();
        x.set(0, 0);
        Check.same("not one that is set later", x.where(0, 3), 2);
    }

    private static void write() {
        Sentences.of(7, "Writes a value to a block. Undoable.");
        StickPairs x = started(0, 1, 1, 1, 0, 1);
        Check.undoable("write", x, () -> x.write(1, 99), 0);
        Check.undoable("write the same", x, () -> x.write(1, 99), 99);
        Check.same("it is written", x.read(1), 99);
    }

    private static void writeBlock() {
        Sentences.of(7, "- `block`: its number");
        for (int map = 0; map <= 2; map++) {
            StickPairs each = started(map, 1, 1, 12, 12, 12, 12);
            int last = map == 2 ? 23 : 47;
            each.write(0, 11);
            each.write(last, 22);
            Check.same("the first, map " + map, each.read(0), 11);
            Check.same("the last, map " + map, each.read(last), 22);
            Check.same("no other, map " + map, each.count(10), 33);
        }
    }

    private static void writeValue() {
        Sentences.of(7, "- `value`: 0 to 99");
        StickPairs x = started(0, 1, 1, 1);
        for (int value = 0; value <= 99; value++) {
            x.write(0, value);
            Check.same("write(0, " + value + ")", x.read(0), value);
        }
        x.write(0, 0);
        Check.same("the least over the greatest", x.read(0), 0);
    }

    private static void writeReturns() {
        Sentences.of(7, "Returns the value that it held.");
        StickPairs x = started(2, 1, 1, 1, 0, 1);
        Check.same("at first", x.write(0, 99), 0);
        Check.same("the greatest", x.write(0, 0), 99);
        Check.same("the least", x.write(0, 5), 0);
        x.fail(0);
        Check.same("in the mirror", x.write(0, 6), 5);
        x.fail(2);
        x.pull(0);
        x.plug(0, 1, 1, 1);
        x.set(0, 0);
        x.start();
        Check.same("behind a start", x.write(0, 1), 0);
    }

    private static void writeNoBlock() {
        Sentences.of(7, "Throws `IndexOutOfBoundsException` if there is no such block in the map");
        StickPairs none = with(1, 1, 4);
        Check.noIndex("without a map", none, () -> none.write(0, 1));
        StickPairs x = started(2, 1, 1, 3, 0, 12);
        for (int block : outside(0, 2)) {
            Check.noIndex("write(" + block + ", 1)", x, () -> x.write(block, 1));
        }
        StickPairs greatest = started(0, 1, 1, 12, 12, 12, 12);
        for (int block : outside(0, 47)) {
            Check.noIndex("write(" + block + ", 1)", greatest, () -> greatest.write(block, 1));
        }
    }

    private static void writeNoSuchValue() {
        Sentences.of(7, "Throws `IllegalArgumentException` if value is out of range");
        StickPairs x = started(2, 1, 1, 3, 0, 12);
        for (int value : outside(0, 99)) {
            Check.noArgument("write(0, " + value + ")", x, () -> x.write(0, value));
            Check.noArgument("write(2, " + value + ")", x, () -> x.write(2, value));
        }
    }

    private static void writeNoStick() {
        Sentences.of(7, "Throws `IllegalStateException` if no stick is left for it");
        StickPairs x = started(0, 1, 1, 1, 0, 1);
        x.fail(2);
        Check.noState("a failed one", x, () -> x.write(1, 0));
        x.pull(0);
        Check.noState("a pulled one", x, () -> x.write(0, 99));
    }

    private static void read() {
        Sentences.of(8, "Reads a block. Undoable.");
        StickPairs x = started(0, 2, 5, 1, 0, 1);
        x.write(1, 99);
        Check.undoable("read", x, () -> x.read(1), 99);
        leaveRoom(x);
        Check.undoable("read again, with a wait", x, () -> x.read(1), 99);
        counts("read", x, 2, 0, 2, 2, 6, 2, 0, 4);
    }

    private static void readBlock() {
        Sentences.of(8, "- `block`: its number");
        for (int map = 0; map <= 2; map++) {
            StickPairs each = started(map, 1, 1, 12, 12, 12, 12);
            int last = map == 2 ? 23 : 47;
            each.read(0);
            each.read(last);
            Check.same("the first, map " + map, each.slot(0, 7), 1);
            Check.same("the last, map " + map, each.slot(map == 2 ? 1 : 3, 7), 1);
        }
    }

    private static void readReturns() {
        Sentences.of(8, "Returns the value.");
        StickPairs x = started(0, 1, 1, 2);
        Check.same("none is written", x.read(0), 0);
        x.write(0, 99);
        x.write(1, 1);
        Check.same("the greatest", x.read(0), 99);
        Check.same("the last block", x.read(1), 1);
        Check.same("reading leaves it", x.read(0), 99);
    }

    private static void readNoBlock() {
        Sentences.of(8, "Throws `IndexOutOfBoundsException` if there is no such block in the map");
        StickPairs none = with(1, 1, 4);
        Check.noIndex("without a map", none, () -> none.read(0));
        StickPairs mirrored = started(2, 1, 1, 3, 0, 12);
        for (int block : outside(0, 2)) {
            Check.noIndex("read(" + block + ")", mirrored, () -> mirrored.read(block));
        }
        StickPairs greatest = started(0, 1, 1, 12, 12, 12, 12);
        for (int block : outside(0, 47)) {
            Check.noIndex("read(" + block + ")", greatest, () -> greatest.read(block));
        }
        StickPairs gone = started(0, 1, 1, 3);
        gone.fail(0);
        Check.noIndex("behind the last of a failed one", gone, () -> gone.read(3));
    }

    private static void readNoStick() {
        Sentences.of(8, "Throws `IllegalStateException` if no stick is left for it");
        StickPairs gone = started(0, 1, 1, 3);
        gone.fail(0);
        Check.noState("the last of a failed one", gone, () -> gone.read(2));
        gone.pull(0);
        Check.noState("a pulled one", gone, () -> gone.read(0));
        StickPairs mirrored = started(2, 1, 1, 3, 0, 12);
        mirrored.pull(0);
        Check.same("one of two is left", mirrored.read(2), 0);
        mirrored.fail(2);
        Check.noState("none of two is left", mirrored, () -> mirrored.read(2));
    }

    private static void rest() {
        Sentences.of(9, "Lets ticks pass. Undoable.");
        StickPairs x = started(0, 1, 9, 1);
        x.read(0);
        Check.undoable("rest", x, () -> x.rest(7), 8);
        counts("nothing else", x, 1, 0, 1, 0, 8, 1, 0, 0);
        Check.same("a rank is free as it was", x.slot(0, 5), 9);
        x.read(0);
        counts("a tick is left to wait", x, 1, 0, 1, 0, 10, 2, 0, 1);
    }

    private static void restTicks() {
        Sentences.of(9, "- `ticks`: 1 to 99");
        for (int ticks = 1; ticks <= 99; ticks++) {
            Check.same("rest(" + ticks + ")", new StickPairs().rest(ticks), ticks);
        }
    }

    private static void restReturns() {
        Sentences.of(9, "Returns the tick then.");
        StickPairs x = new StickPairs();
        Check.same("the least", x.rest(1), 1);
        Check.same("the greatest", x.rest(99), 100);
        Check.same("the tick", x.count(4), 100);
    }

    private static void restRefused() {
        Sentences.of(9, "Throws `IllegalArgumentException` if ticks is out of range");
        StickPairs x = new StickPairs();
        for (int ticks : outside(1, 99)) {
            Check.noArgument("rest(" + ticks + ")", x, () -> x.rest(ticks));
        }
    }

    private static void set() {
        Sentences.of(10, "Changes a setting; the map stays. Undoable.");
        StickPairs x = started(0, 1, 1, 2, 0, 1);
        Check.undoable("set", x, () -> x.set(0, 2), 0);
        leaveRoom(x);
        Check.undoable("set the same", x, () -> x.set(0, 2), 2);
        Check.undoable("set no pairs", x, () -> x.set(1, 0), 1);
        Check.undoable("set pairs", x, () -> x.set(1, 1), 0);
        counts("the map stays", x, 2, 0, 3, 2);
        place("the map stays", x, 2, 0, 1, 0, 0);
    }

    private static void setSetting() {
        Sentences.of(10, "- `setting`: 0 or 1");
        StickPairs x = new StickPairs();
        x.set(0, 1);
        Check.same("the one", x.setting(0), 1);
        Check.same("not the other", x.setting(1), 1);
        x.set(1, 0);
        Check.same("the other", x.setting(1), 0);
        Check.same("not the one", x.setting(0), 1);
    }

    private static void setValue() {
        Sentences.of(10, "- `value`: the new value");
        StickPairs x = new StickPairs();
        for (int map = 0; map <= 2; map++) {
            x.set(0, map);
            Check.same("the map", x.setting(0), map);
        }
        for (int pairs = 0; pairs <= 1; pairs++) {
            x.set(1, pairs);
            Check.same("pairs", x.setting(1), pairs);
        }
    }

    private static void setReturns() {
        Sentences.of(10, "Returns the previous value.");
        StickPairs x = new StickPairs();
        Check.same("the map, from the first value", x.set(0, 1), 0);
        Check.same("the map, to the greatest", x.set(0, 2), 1);
        Check.same("the map, to the least", x.set(0, 0), 2);
        Check.same("the map, the same", x.set(0, 0), 0);
        Check.same("pairs, from the first value", x.set(1, 1), 1);
        Check.same("pairs, to the least", x.set(1, 0), 1);
        Check.same("pairs, to the greatest", x.set(1, 1), 0);
    }

    private static void setNoSetting() {
        Sentences.of(10, "Throws `IndexOutOfBoundsException` if there is no such setting");
        StickPairs x = new StickPairs();
        for (int setting : outside(0, 1)) {
            Check.noIndex("set(" + setting + ", 0)", x, () -> x.set(setting, 0));
        }
    }

    private static void setNoSuchValue() {
        Sentences.of(10, "Throws `IllegalArgumentException` if value is out of range");
        StickPairs x = new StickPairs();
        for (int value : outside(0, 2)) {
            Check.noArgument("set(0, " + value + ")", x, () -> x.set(0, value));
        }
        for (int value : outside(0, 1)) {
            Check.noArgument("set(1, " + value + ")", x, () -> x.set(1, value));
        }
    }
}
