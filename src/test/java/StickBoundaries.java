/** The sentences on sticks, maps and starting: the terms' first part, and the promises 1 to 6. */
final class StickBoundaries extends Machines {
    private StickBoundaries() {
    }

    static void all() {
        newObject();
        use512Calls();
        slotsOfChannels();
        slotsAtFirst();
        stickNumbers();
        stickRanks();
        stickFails();
        mapIsMade();
        mapStays();
        roomOfChannel();
        blocksOfLostSticks();
        latePlugged();
        wideBlocks();
        roundedDown();
        narrowBlocksOfWideMap();
        narrowMap();
        mirroredMap();
        reasons();
        plug();
        plugSlot();
        plugSize();
        plugRanks();
        plugDelay();
        plugReturns();
        plugNoSlot();
        plugNoSuchStick();
        plugTakenSlot();
        pull();
        pullSlot();
        pullReturns();
        pullNoSlot();
        pullNoStick();
        fail();
        failSlot();
        failReturns();
        failNoSlot();
        failNoGoodStick();
        start();
        startReturns();
        startRefused();
        stop();
        stopReturns();
        stopRefused();
    }

    private static void newObject() {
        Sentences.of(1, "Creates a machine that has not started, without sticks, with an empty buffer and no "
                + "snapshot.");
        StickPairs x = new StickPairs();
        Check.noState("stop", x, x::stop);
        Check.same("blocks", x.count(2), 0);
        Check.same("sticks", x.count(0), 0);
        for (int slot = 0; slot <= 3; slot++) {
            int each = slot;
            Check.noState("pull(" + slot + ")", x, () -> x.pull(each));
            Check.noState("fail(" + slot + ")", x, () -> x.fail(each));
        }
        Check.same("firstError", x.firstError(), 0);
        Check.noArgument("run", x, x::run);
        Check.same("clearBuffer", x.clearBuffer(), 0);
        Check.noState("goBack", x, x::goBack);
        Check.noState("undo", x, x::undo);
    }

    private static void use512Calls() {
        Sentences.terms(1, "An object is used for at most 512 calls after it has been made; what later calls "
                + "answer is free.");
        StickPairs rests = new StickPairs();
        for (int call = 1; call <= 512; call++) {
            Check.same("rest, call " + call, rests.rest(99), 99 * call);
        }
        StickPairs starts = with(2, 9, 12, 12, 12, 12);
        for (int call = 5; call <= 512; call++) {
            Check.same("start, call " + call, starts.start(), 48);
        }
        StickPairs reads = started(1, 1, 9, 1);
        for (int call = 4; call <= 500; call++) {
            reads.read(0);
        }
        counts("up to the 512th call", reads, 1, 0, 1, 0, 9 * 496 + 1, 497, 0, 8 * 496, 0, 1, 0, 6);
    }

    private static void slotsOfChannels() {
        Sentences.terms(2, "There are 2 channels, 0 and 1, each with 2 slots, 0 and 1; the slot s of the channel c "
                + "has the number 2 c and s together, 0 to 3.");
        for (int pair = 0; pair < 16; pair++) {
            int lesser = pair / 4;
            int greater = pair % 4;
            if (lesser >= greater) {
                continue;
            }
            StickPairs x = new StickPairs();
            x.plug(lesser, 1, 1, 1);
            x.plug(greater, 1, 1, 1);
            x.start();
            boolean oneChannel = lesser == 0 && greater == 1 || lesser == 2 && greater == 3;
            Check.same("wide blocks of the slots " + lesser + " and " + greater, x.count(3), oneChannel ? 0 : 2);
            place("the first", x, 0, lesser, 0, 0);
            place("the second", x, 1, greater, 0, 0);
        }
    }

    private static void slotsAtFirst() {
        Sentences.terms(18, "In a slot there is a stick, or none, as at first.");
        StickPairs empty = new StickPairs();
        for (int slot = 0; slot <= 3; slot++) {
            numbers("at first", empty, slot, NONE, NONE, NONE, NONE, NONE, NONE, NONE, NONE);
        }
        empty.plug(3, 2, 2, 7);
        numbers("with one", empty, 3, 2, 2, 7, 0, 0, 0, 0, 0);
        empty.pull(3);
        numbers("with none again", empty, 3, NONE, NONE, NONE, NONE, NONE, NONE, NONE, NONE);
    }

    private static void stickNumbers() {
        Sentences.terms(2, "A stick has a size, 1 to 12 blocks, numbered from 0, 1 or 2 ranks, and a delay, 1 to 9.");
        StickPairs least = started(0, 1, 1, 1);
        numbers("the least", least, 0, 1, 1, 1, 0, 1, 0, NONE, 0);
        liesAll("the least", least, 0, 0);
        StickPairs greatest = started(0, 2, 9, 12);
        numbers("the greatest", greatest, 0, 12, 2, 9, 0, 1, 0, 0, 0);
        liesAll("the greatest", greatest, 0, 0, 1, 2, 3, 4, 5, 6, 7, 8, 9, 10, 11);
    }

    private static void stickRanks() {
        Sentences.terms(19, "With 2 ranks the blocks with even numbers are in the rank 0, those with odd numbers "
                + "in the rank 1; with 1 rank all are in the rank 0.");
        StickPairs two = started(1, 2, 1, 3, 12);
        for (int block = 0; block < 15; block++) {
            // By the number in the stick: the second stick's begin with the block 3.
            int number = block < 3 ? block : block - 3;
            Check.same("2 ranks, block " + block, two.where(block, 2), number % 2);
        }
        StickPairs one = started(1, 1, 1, 3, 12);
        for (int block = 0; block < 15; block++) {
            Check.same("1 rank, block " + block, one.where(block, 2), 0);
        }
    }

    private static void stickFails() {
        Sentences.terms(4, "A stick can fail; then it has failed until it is pulled out.");
        StickPairs x = started(0, 1, 1, 2, 0, 2);
        x.fail(0);
        Check.same("failed", x.slot(0, 3), 1);
        Check.same("start", x.start(), 2);
        Check.same("failed behind a start", x.slot(0, 3), 1);
        x.stop();
        Check.same("failed behind a stop", x.slot(0, 3), 1);
        Check.noState("fail again", x, () -> x.fail(0));
        x.pull(0);
        Check.same("pulled", x.count(1), 0);
        x.plug(0, 2, 1, 1);
        Check.same("a new one", x.slot(0, 3), 0);
        Check.same("start with it", x.start(), 4);
    }

    private static void mapIsMade() {
        Sentences.terms(5, "When the machine starts, a map is made of all sticks that have not failed, and all "
                + "blocks hold 0.");
        StickPairs x = with(1, 1, 3, 4, 5, 6);
        x.fail(1);
        x.fail(2);
        Check.same("start without two", x.start(), 9);
        liesAll("a failed one", x, 1);
        liesAll("a failed one", x, 2);
        fill(x, 99);
        Check.same("99 in all", x.count(10), 9 * 99);
        Check.same("start anew", x.start(), 9);
        Check.same("0 in all", x.count(10), 0);
        for (int block = 0; block < 9; block++) {
            Check.same("write(" + block + ", 1)", x.write(block, 1), 0);
        }
        x.fail(0);
        x.fail(3);
        Check.noState("start of failed ones alone", x, x::start);
    }

    private static void mapStays() {
        Sentences.terms(5, "The map stays until the machine starts anew or stops.");
        StickPairs x = started(0, 1, 1, 4, 0, 2);
        x.fail(0);
        Check.same("behind fail", x.count(2), 6);
        x.pull(2);
        Check.same("behind pull", x.count(2), 6);
        x.set(0, 2);
        Check.same("behind set", x.count(3), 4);
        x.plug(2, 12, 1, 1);
        Check.same("behind plug", x.count(2), 6);
        Check.noState("start without a mirror", x, x::start);
        place("behind a refused start", x, 5, 0, 3, 0, 0, NONE, NONE, 0);
        x.pull(2);
        x.pull(0);
        Check.same("without a stick", x.count(2), 6);
        Check.same("without a stick", x.lies(2, 1), 3);
        x.plug(1, 7, 1, 1);
        x.set(0, 1);
        Check.same("start anew", x.start(), 7);
        Check.same("the new map", x.lies(2, 1), NONE);
        Check.same("stop", x.stop(), 7);
        Check.same("no map", x.count(2), 0);
    }

    private static void roomOfChannel() {
        Sentences.terms(5, "The room of a channel is the sum of the sizes of its sticks in the map; its blocks are "
                + "counted from 0 on, those of the slot 0 first.");
        StickPairs all = started(2, 1, 1, 12, 12, 12, 12);
        place("the last of the slot 0", all, 11, 0, 11, 0, 2, 2, 11, 1);
        place("the first of the slot 1", all, 12, 1, 0, 0, 2, 3, 0, 1);
        place("the last", all, 23, 1, 11, 0, 2, 3, 11, 1);
        StickPairs second = started(1, 1, 1, 0, 3, 0, 2);
        place("no stick in the slot 0", second, 0, 1, 0, 0, 0);
        place("no stick in the slot 2", second, 3, 3, 0, 0, 0);
        StickPairs failed = with(1, 1, 5, 3);
        failed.fail(0);
        failed.start();
        place("a failed stick in the slot 0", failed, 0, 1, 0, 0, 0);
        Check.same("without its size", failed.count(2), 3);
    }

    private static void blocksOfLostSticks() {
        Sentences.terms(4, "If a stick fails, or is pulled out, its blocks hold nothing any more, though the map "
                + "stays.");
        StickPairs x = started(0, 1, 1, 3, 0, 2);
        fill(x, 10);
        x.fail(0);
        counts("failed", x, 2, 1, 5, 4, 0, 0, 0, 0, 3, 1, 20);
        place("failed", x, 4, 0, 2, 0, 0, NONE, NONE, 0);
        Check.noState("read", x, () -> x.read(4));
        x.pull(2);
        counts("failed and pulled", x, 1, 1, 5, 4, 0, 0, 0, 0, 5, 1, 0);
        Check.noState("read", x, () -> x.read(3));
        Check.same("lies", x.lies(2, 1), 3);
    }

    private static void latePlugged() {
        Sentences.terms(2, "(A stick that is plugged in is in no map until the machine starts anew, whatever slot "
                + "it is in.)");
        StickPairs x = started(0, 1, 1, 3, 0, 2);
        x.write(0, 8);
        x.pull(0);
        x.plug(0, 3, 1, 1);
        x.plug(1, 4, 1, 1);
        Check.same("in a slot of the map", x.slot(0, 4), 0);
        Check.same("in another slot", x.slot(1, 4), 0);
        Check.noState("read", x, () -> x.read(0));
        Check.noState("write", x, () -> x.write(0, 1));
        liesAll("in another slot", x, 1);
        Check.same("blocks left without a stick", x.count(8), 3);
        Check.same("pull", x.pull(1), 0);
        x.plug(1, 4, 1, 1);
        Check.same("start anew", x.start(), 9);
        Check.same("in the map", x.slot(0, 4) + x.slot(1, 4), 2);
    }

    private static void wideBlocks() {
        Sentences.terms(19, "0, wide: with m as the lesser one of both rooms, the block b below 2 m lies in the "
                + "channel b modulo 2, and is the block b / 2 of this channel; these are the wide blocks.");
        StickPairs none = started(0, 1, 1, 3);
        Check.same("wide blocks with an m of 0", none.count(3), 0);
        place("an m of 0", none, 0, 0, 0, 0, 0);
        StickPairs one = started(0, 1, 1, 1, 0, 12);
        Check.same("wide blocks with an m of 1", one.count(3), 2);
        place("the first, an m of 1", one, 0, 0, 0, 0, 1, NONE, NONE, 1);
        place("the last wide one, an m of 1", one, 1, 2, 0, 0, 1, NONE, NONE, 1);
        StickPairs all = started(0, 2, 1, 12, 12, 12, 12);
        Check.same("wide blocks with an m of 24", all.count(3), 48);
        place("the last of the slot 2", all, 23, 2, 11, 1, 1);
        place("the first of the slot 1", all, 24, 1, 0, 0, 1);
        place("the last of the slot 1", all, 46, 1, 11, 1, 1);
        place("the last", all, 47, 3, 11, 1, 1, NONE, NONE, 1);
        for (int block = 0; block < 48; block++) {
            Check.same("channel of the block " + block, all.where(block, 0) / 2, block % 2);
        }
    }

    private static void roundedDown() {
        Sentences.terms(19, "All numbers are integers, but for two shares; divisions are rounded down.");
        StickPairs all = started(0, 1, 1, 12, 12, 12, 12);
        Check.same("3 / 2", all.where(3, 1), 1);
        Check.same("45 / 2 less 12", all.where(45, 1), 10);
    }

    private static void narrowBlocksOfWideMap() {
        Sentences.terms(19, "The block b from 2 m on is the block b - m of the channel with the greater room; "
                + "these are the narrow blocks.");
        place("an m of 0", started(0, 1, 1, 3), 2, 0, 2, 0, 0);
        place("an m of 1", started(0, 1, 1, 1, 0, 12), 2, 2, 1, 0, 0);
        StickPairs first = started(0, 1, 1, 2, 3, 1, 1);
        place("the last wide one", first, 3, 3, 0, 0, 1);
        place("the first narrow one", first, 4, 1, 0, 0, 0, NONE, NONE, 1);
        place("the last narrow one", first, 6, 1, 2, 0, 0);
        StickPairs second = started(0, 1, 1, 1, 1, 2, 3);
        place("the last wide one", second, 3, 2, 1, 0, 1);
        place("the first narrow one", second, 4, 3, 0, 0, 0, NONE, NONE, 1);
        place("the last narrow one", second, 6, 3, 2, 0, 0);
        place("an m of 0, the channel 1", started(0, 1, 1, 0, 0, 1, 1), 1, 3, 0, 0, 0);
        StickPairs equal = started(0, 1, 1, 2, 1, 1, 2);
        place("equal rooms", equal, 5, 3, 1, 0, 1);
        Check.noIndex("no narrow one with equal rooms", equal, () -> equal.where(6, 0));
        StickPairs oneMore = started(0, 1, 1, 2, 2, 1, 2);
        place("rooms of 4 and 3", oneMore, 6, 1, 1, 0, 0);
        Check.noIndex("one narrow one alone", oneMore, () -> oneMore.where(7, 0));
    }

    private static void narrowMap() {
        Sentences.terms(19, "1, narrow: all blocks are narrow; the block b is the block b of the channel 0, if "
                + "that has so many, otherwise the block b less the room of the channel 0 of the channel 1.");
        StickPairs x = started(1, 1, 1, 2, 1, 1, 2);
        Check.same("wide blocks", x.count(3), 0);
        place("the last of the channel 0", x, 2, 1, 0, 0, 0, NONE, NONE, 1);
        place("the first of the channel 1", x, 3, 2, 0, 0, 0, NONE, NONE, 1);
        place("the last", x, 5, 3, 1, 0, 0, NONE, NONE, 1);
        Check.noIndex("one more", x, () -> x.where(6, 0));
        place("no room in the channel 0", started(1, 1, 1, 0, 0, 1, 2), 0, 2, 0, 0, 0);
        StickPairs alone = started(1, 1, 1, 2);
        place("no room in the channel 1", alone, 1, 0, 1, 0, 0);
        Check.noIndex("no room in the channel 1", alone, () -> alone.where(2, 0));
        place("the last of 48", started(1, 1, 1, 12, 12, 12, 12), 47, 3, 11, 0, 0);
    }

    private static void mirroredMap() {
        Sentences.terms(19, "2, mirrored: all blocks are mirrored: the block b is the block b of the channel 0, "
                + "and again the block b of the channel 1; there are as many as the lesser room.");
        StickPairs one = started(2, 1, 1, 1, 0, 12, 12);
        Check.same("a lesser room of 1", one.count(2), 1);
        place("the one", one, 0, 0, 0, 0, 2, 2, 0, 1);
        Check.noIndex("no second one", one, () -> one.where(1, 0));
        StickPairs greater = started(2, 1, 1, 12, 12, 0, 1);
        Check.same("the channel 1 is the lesser", greater.count(2), 1);
        place("the one", greater, 0, 0, 0, 0, 2, 3, 0, 1);
        StickPairs equal = started(2, 1, 1, 2, 1, 1, 2);
        Check.same("equal rooms", equal.count(2), 3);
        place("the last", equal, 2, 1, 0, 0, 2, 3, 1, 1);
    }

    private static void reasons() {
        Sentences.terms(23, "The machine does not start for the first of these reasons that is so: 1: there is no "
                + "stick that has not failed; 2: the map is mirrored, and a channel has no room.");
        StickPairs x = new StickPairs();
        x.set(0, 2);
        Check.same("both reasons", x.why(), 1);
        x.plug(3, 1, 1, 1);
        Check.same("no room in the channel 0", x.why(), 2);
        x.set(0, 0);
        Check.same("wide with one block", x.why(), 0);
        x.fail(3);
        Check.same("failed ones alone", x.why(), 1);
        Check.noState("start", x, x::start);
        x.plug(1, 1, 1, 1);
        x.set(0, 2);
        Check.same("no room in the channel 1", x.why(), 2);
        Check.noState("start", x, x::start);
        x.plug(2, 1, 1, 1);
        Check.same("room in both", x.why(), 0);
        Check.same("start", x.start(), 1);
    }

    private static void plug() {
        Sentences.of(2, "Plugs a stick in. Undoable.");
        StickPairs x = new StickPairs();
        Check.undoable("plug the least", x, () -> x.plug(0, 1, 1, 1), 1);
        Check.undoable("plug the greatest", x, () -> x.plug(3, 12, 2, 9), 2);
        numbers("plugged", x, 0, 1, 1, 1, 0, 0, 0, NONE, 0);
        numbers("plugged", x, 3, 12, 2, 9, 0, 0, 0, 0, 0);
    }

    private static void plugSlot() {
        Sentences.of(2, "- `slot`: 0 to 3");
        for (int slot = 0; slot <= 3; slot++) {
            StickPairs each = new StickPairs();
            Check.same("plug(" + slot + ")", each.plug(slot, 5, 1, 1), 1);
            for (int other = 0; other <= 3; other++) {
                Check.same("slot(" + other + ")", each.slot(other, 0), other == slot ? 5 : NONE);
            }
        }
    }

    private static void plugSize() {
        Sentences.of(2, "- `size`: 1 to 12");
        for (int size = 1; size <= 12; size++) {
            StickPairs each = with(1, 1, size);
            Check.same("size " + size, each.slot(0, 0), size);
            Check.same("blocks with the size " + size, each.start(), size);
        }
    }

    private static void plugRanks() {
        Sentences.of(2, "- `ranks`: 1 or 2");
        Check.same("1 rank", with(1, 1, 1).slot(0, 1), 1);
        Check.same("2 ranks, with a size of 1", with(2, 1, 1).slot(0, 1), 2);
    }

    private static void plugDelay() {
        Sentences.of(2, "- `delay`: 1 to 9");
        for (int delay = 1; delay <= 9; delay++) {
            StickPairs each = started(0, 1, delay, 1);
            each.read(0);
            Check.same("delay " + delay, each.slot(0, 5), delay);
        }
    }

    private static void plugReturns() {
        Sentences.of(2, "Returns how many sticks there are then.");
        StickPairs all = new StickPairs();
        Check.same("the first", all.plug(2, 1, 1, 1), 1);
        Check.same("the second", all.plug(1, 1, 1, 1), 2);
        all.fail(1);
        Check.same("the third, behind a failed one", all.plug(3, 1, 1, 1), 3);
        Check.same("the fourth", all.plug(0, 1, 1, 1), 4);
        all.pull(2);
        Check.same("the fourth again", all.plug(2, 1, 1, 1), 4);
    }

    private static void plugNoSlot() {
        Sentences.of(2, "Throws `IndexOutOfBoundsException` if there is no such slot");
        StickPairs x = with(1, 1, 4);
        for (int slot : outside(0, 3)) {
            Check.noIndex("plug(" + slot + ")", x, () -> x.plug(slot, 1, 1, 1));
        }
    }

    private static void plugNoSuchStick() {
        Sentences.of(2, "Throws `IllegalArgumentException` if size, ranks or delay is out of range");
        StickPairs x = with(1, 1, 4);
        for (int size : outside(1, 12)) {
            Check.noArgument("size " + size, x, () -> x.plug(1, size, 1, 1));
        }
        for (int ranks : outside(1, 2)) {
            Check.noArgument("ranks " + ranks, x, () -> x.plug(1, 1, ranks, 1));
        }
        for (int delay : outside(1, 9)) {
            Check.noArgument("delay " + delay, x, () -> x.plug(1, 1, 1, delay));
        }
    }

    private static void plugTakenSlot() {
        Sentences.of(2, "Throws `IllegalStateException` if there is a stick in the slot");
        StickPairs full = with(2, 3, 1, 2, 11, 12);
        for (int slot = 0; slot <= 3; slot++) {
            int each = slot;
            Check.noState("slot " + slot, full, () -> full.plug(each, 1, 1, 1));
        }
        full.fail(2);
        Check.noState("a failed one", full, () -> full.plug(2, 1, 1, 1));
        full.start();
        Check.noState("one in the map", full, () -> full.plug(3, 1, 1, 1));
        full.pull(2);
        Check.same("a pulled one", full.plug(2, 1, 1, 1), 4);
    }

    private static void pull() {
        Sentences.of(3, "Pulls a stick out. Undoable.");
        StickPairs x = started(0, 2, 3, 1, 12);
        x.read(12);
        Check.undoable("pull the greatest", x, () -> x.pull(1), 12);
        leaveRoom(x);
        Check.undoable("pull the least, and last", x, () -> x.pull(0), 1);
        counts("pulled", x, 0, 0, 13, 0, 1, 1, 0, 0, 13, 1, 0);
    }

    private static void pullSlot() {
        Sentences.of(3, "- `slot`: 0 to 3");
        for (int slot = 0; slot <= 3; slot++) {
            StickPairs each = started(1, 1, 1, 1, 2, 3, 4);
            Check.same("pull(" + slot + ")", each.pull(slot), slot + 1);
            for (int other = 0; other <= 3; other++) {
                Check.same("slot(" + other + ")", each.slot(other, 0), other == slot ? NONE : other + 1);
            }
        }
    }

    private static void pullReturns() {
        Sentences.of(3, "Returns how many of its blocks are used by the map till then; 0 if it has failed, or is "
                + "in no map.");
        Check.same("all of a wide map", started(0, 1, 1, 12, 0, 1).pull(0), 12);
        Check.same("one", started(0, 1, 1, 12, 0, 1).pull(2), 1);
        Check.same("mirrored, all", started(2, 1, 1, 3, 4, 7).pull(1), 4);
        Check.same("mirrored, all but one", started(2, 1, 1, 3, 4, 6).pull(1), 3);
        Check.same("mirrored, one", started(2, 1, 1, 3, 4, 4).pull(1), 1);
        Check.same("mirrored, none", started(2, 1, 1, 3, 4, 3).pull(1), 0);
        Check.same("mirrored, none of the channel 1", started(2, 1, 1, 3, 0, 3, 12).pull(3), 0);
        Check.same("mirrored, one of the channel 1", started(2, 1, 1, 4, 0, 3, 12).pull(3), 1);
        StickPairs failed = started(0, 1, 1, 3, 0, 3);
        failed.fail(0);
        Check.same("failed", failed.pull(0), 0);
        failed.plug(0, 9, 1, 1);
        Check.same("plugged since the start", failed.pull(0), 0);
        failed.stop();
        Check.same("without a map", failed.pull(2), 0);
        StickPairs before = with(1, 1, 3, 3);
        before.fail(1);
        before.start();
        Check.same("failed before the start", before.pull(1), 0);
        Check.same("its block is lost already", pullBehindMirror(), 3);
    }

    private static void pullNoSlot() {
        Sentences.of(3, "Throws `IndexOutOfBoundsException` if there is no such slot");
        StickPairs x = started(0, 1, 1, 2, 2, 2, 2);
        for (int slot : outside(0, 3)) {
            Check.noIndex("pull(" + slot + ")", x, () -> x.pull(slot));
        }
    }

    private static void pullNoStick() {
        Sentences.of(3, "Throws `IllegalStateException` if there is no stick in the slot");
        StickPairs x = started(0, 1, 1, 0, 2);
        for (int slot : new int[] {0, 2, 3}) {
            Check.noState("pull(" + slot + ")", x, () -> x.pull(slot));
        }
        x.pull(1);
        Check.noState("pulled already", x, () -> x.pull(1));
    }

    /** A mirrored stick's blocks are used though those of the other channel are gone. */
    private static int pullBehindMirror() {
        StickPairs x = started(2, 1, 1, 3, 0, 3);
        x.pull(0);
        return x.pull(2);
    }

    private static void fail() {
        Sentences.of(4, "Lets a stick fail. Undoable.");
        StickPairs x = started(0, 2, 3, 1, 12);
        x.read(12);
        Check.undoable("fail the greatest", x, () -> x.fail(1), 12);
        leaveRoom(x);
        Check.undoable("fail the least, and last", x, () -> x.fail(0), 1);
        counts("failed", x, 2, 2, 13, 0, 1, 1, 0, 0, 13, 1, 0);
        numbers("failed", x, 1, 12, 2, 3, 1, 1, 0, 3, 1);
    }

    private static void failSlot() {
        Sentences.of(4, "- `slot`: 0 to 3");
        for (int slot = 0; slot <= 3; slot++) {
            StickPairs each = started(1, 1, 1, 1, 2, 3, 4);
            Check.same("fail(" + slot + ")", each.fail(slot), slot + 1);
            for (int other = 0; other <= 3; other++) {
                Check.same("slot(" + other + ")", each.slot(other, 3), other == slot ? 1 : 0);
            }
        }
    }

    private static void failReturns() {
        Sentences.of(4, "Returns how many of its blocks are used by the map till then; 0 if it is in no map.");
        Check.same("all of a wide map", started(0, 1, 1, 12, 0, 1).fail(0), 12);
        Check.same("one", started(0, 1, 1, 12, 0, 1).fail(2), 1);
        Check.same("mirrored, one", started(2, 1, 1, 3, 4, 4).fail(1), 1);
        Check.same("mirrored, none", started(2, 1, 1, 3, 4, 3).fail(1), 0);
        Check.same("before a start", with(1, 1, 3).fail(0), 0);
        StickPairs late = started(0, 1, 1, 3, 0, 3);
        late.pull(0);
        late.plug(0, 3, 1, 1);
        Check.same("plugged since the start", late.fail(0), 0);
        late.stop();
        Check.same("without a map", late.fail(2), 0);
    }

    private static void failNoSlot() {
        Sentences.of(4, "Throws `IndexOutOfBoundsException` if there is no such slot");
        StickPairs x = started(0, 1, 1, 2, 2, 2, 2);
        for (int slot : outside(0, 3)) {
            Check.noIndex("fail(" + slot + ")", x, () -> x.fail(slot));
        }
    }

    private static void failNoGoodStick() {
        Sentences.of(4, "Throws `IllegalStateException` if there is no stick in the slot, or it has failed already");
        StickPairs x = started(0, 1, 1, 0, 2);
        for (int slot : new int[] {0, 2, 3}) {
            Check.noState("fail(" + slot + ")", x, () -> x.fail(slot));
        }
        x.fail(1);
        Check.noState("failed already", x, () -> x.fail(1));
        x.pull(1);
        Check.noState("pulled", x, () -> x.fail(1));
    }

    private static void start() {
        Sentences.of(5, "Starts the machine, or starts it anew. All ranks, of failed sticks, too, are free from "
                + "the tick of now on. Undoable.");
        StickPairs x = with(2, 9, 4, 0, 2, 3);
        x.rest(7);
        Check.undoable("start", x, x::start, 9);
        numbers("free from now on", x, 0, 4, 2, 9, 0, 1, 7, 7, 0);
        x.read(0);
        x.read(1);
        x.fail(2);
        x.plug(1, 5, 1, 2);
        Check.same("the new one is free from 0 on", x.slot(1, 5), 0);
        leaveRoom(x);
        Check.undoable("start anew", x, x::start, 12);
        numbers("one that was waited for", x, 0, 4, 2, 9, 0, 1, 9, 9, 1);
        numbers("a failed one", x, 2, 2, 2, 9, 1, 0, 9, 9, 1);
        numbers("one that was not read", x, 3, 3, 2, 9, 0, 1, 9, 9, 0);
        numbers("a new one", x, 1, 5, 1, 2, 0, 1, 9, NONE, 0);
        Check.same("starts", x.count(9), 2);
        StickPairs zero = with(2, 9, 4);
        zero.start();
        numbers("free from 0 on", zero, 0, 4, 2, 9, 0, 1, 0, 0, 0);
    }

    private static void startReturns() {
        Sentences.of(5, "Returns how many blocks there are.");
        Check.same("the fewest", with(1, 1, 0, 0, 0, 1).start(), 1);
        Check.same("the most, wide", with(1, 1, 12, 12, 12, 12).start(), 48);
        StickPairs x = with(1, 1, 12, 12, 12, 12);
        x.set(0, 1);
        Check.same("the most, narrow", x.start(), 48);
        x.set(0, 2);
        Check.same("the most, mirrored", x.start(), 24);
        x.fail(0);
        Check.same("mirrored, a stick less", x.start(), 12);
        x.fail(1);
        x.set(0, 0);
        Check.same("wide, a channel less", x.start(), 24);
    }

    private static void startRefused() {
        Sentences.of(5, "Throws `IllegalStateException` if it does not start");
        StickPairs x = new StickPairs();
        Check.noState("without a stick", x, x::start);
        x.plug(0, 12, 1, 1);
        x.set(0, 2);
        Check.noState("without a mirror", x, x::start);
        x.set(0, 1);
        x.start();
        x.write(11, 6);
        x.set(0, 2);
        Check.noState("anew without a mirror", x, x::start);
        Check.same("it holds its values", x.read(11), 6);
        Check.same("starts", x.count(9), 1);
        x.fail(0);
        Check.noState("failed ones alone", x, x::start);
    }

    private static void stop() {
        Sentences.of(6, "Stops the machine: there is no map then. Undoable.");
        StickPairs x = started(2, 2, 9, 3, 0, 3);
        x.write(0, 4);
        x.read(0);
        leaveRoom(x);
        Check.undoable("stop", x, x::stop, 3);
        counts("stopped", x, 2, 0, 0, 0, 1, 1, 0, 0, 0, 1, 0);
        numbers("in no map", x, 0, 3, 2, 9, 0, 0, 9, 0, 1);
        liesAll("no map", x, 0);
        liesAll("no map", x, 2);
        Check.noIndex("where", x, () -> x.where(0, 0));
        Check.noIndex("read", x, () -> x.read(0));
        Check.noIndex("write", x, () -> x.write(0, 0));
    }

    private static void stopReturns() {
        Sentences.of(6, "Returns how many blocks there were.");
        Check.same("the fewest", started(0, 1, 1, 1).stop(), 1);
        Check.same("the most", started(0, 1, 1, 12, 12, 12, 12).stop(), 48);
        Check.same("the most, mirrored", started(2, 1, 1, 12, 12, 12, 12).stop(), 24);
        StickPairs gone = started(0, 1, 1, 4, 0, 2);
        gone.fail(0);
        gone.pull(2);
        Check.same("with no stick left", gone.stop(), 6);
    }

    private static void stopRefused() {
        Sentences.of(6, "Throws `IllegalStateException` if it has not started");
        StickPairs x = with(1, 1, 4);
        Check.noState("before a start", x, x::stop);
        x.start();
        x.stop();
        Check.noState("stopped already", x, x::stop);
        x.start();
        x.undo();
        Check.noState("the start is undone", x, x::stop);
    }
}
