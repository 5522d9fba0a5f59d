/** The sentences on texts, undo and exceptions, and the promises 11 to 17. */
final class TextBoundaries extends Machines {
    private TextBoundaries() {
    }

    static void all() {
        append();
        appendCode();
        appendReturns();
        appendNoCode();
        appendToFull();
        at60Characters();
        clearBuffer();
        clearBufferReturns();
        syntaxErrors();
        completeReadings();
        firstError();
        firstErrorReturns();
        readingInTurn();
        run();
        runReturns();
        runRefused();
        keep();
        keepReturns();
        goBack();
        goBackReturns();
        goBackRefused();
        undo();
        undoReturns();
        undoRefused();
        undoableSaves();
        sixAreSaved();
        refusedCallsChangeNothing();
        firstNamedException();
    }

    private static void append() {
        Sentences.of(11, "Appends a character to the buffer.");
        StickPairs x = new StickPairs();
        long before = x.digest();
        x.append('!');
        x.append('~');
        Check.same("behind the one before", x.digest(), ((before + 2) * 31 + '!') * 31 + '~');
        Check.same("it saves no state", x.count(11), 0);
    }

    private static void appendCode() {
        Sentences.of(11, "- `code`: the character code, 33 to 126");
        for (int code = 33; code <= 126; code++) {
            Check.same("append(" + code + ")", new StickPairs().append(code), 1);
        }
    }

    private static void appendReturns() {
        Sentences.of(11, "Returns the new length of the buffer.");
        StickPairs x = new StickPairs();
        for (int length = 1; length <= 60; length++) {
            Check.same("append", x.append('0'), length);
        }
        x.clearBuffer();
        Check.same("behind clearBuffer", x.append('0'), 1);
        x.run();
        Check.same("behind run", x.append('0'), 1);
    }

    private static void appendNoCode() {
        Sentences.of(11, "Throws `IllegalArgumentException` if code is not 33 to 126");
        StickPairs x = new StickPairs();
        for (int code : outside(33, 126)) {
            Check.noArgument("append(" + code + ")", x, () -> x.append(code));
        }
        for (int code : new int[] {0, 10, 32 + 256, 48 + 256, 48 + (1 << 16), 48 - (1 << 16)}) {
            Check.noArgument("append(" + code + ")", x, () -> x.append(code));
        }
    }

    private static StickPairs fullBuffer() {
        StickPairs x = new StickPairs();
        type(x, "x".repeat(60));
        return x;
    }

    private static void appendToFull() {
        Sentences.of(11, "Throws `IllegalStateException` if the buffer has 60 characters");
        StickPairs x = fullBuffer();
        for (int code = 33; code <= 126; code++) {
            int each = code;
            Check.noState("append(" + code + ")", x, () -> x.append(each));
        }
        x.clearBuffer();
        Check.same("behind clearBuffer", x.append('x'), 1);
    }

    private static void at60Characters() {
        Sentences.terms(11, "The buffer has at most 60 characters.");
        StickPairs x = new StickPairs();
        for (int length = 1; length <= 59; length++) {
            x.append('0' + length % 10);
        }
        Check.same("the 60th", x.append('x'), 60);
        Check.noState("the 61st", x, () -> x.append('x'));
        Check.noState("the 61st again", x, () -> x.append('0'));
        Check.same("60 stay", x.clearBuffer(), 60);
    }

    private static void clearBuffer() {
        Sentences.of(12, "Clears the buffer.");
        StickPairs x = new StickPairs();
        long before = x.digest();
        type(x, "47-48");
        x.clearBuffer();
        Check.same("as at first", x.digest(), before);
        Check.same("no error is left", x.firstError(), 0);
        Check.noArgument("run", x, x::run);
    }

    private static void clearBufferReturns() {
        Sentences.of(12, "Returns the length that it had.");
        StickPairs x = new StickPairs();
        Check.same("empty", x.clearBuffer(), 0);
        x.append('0');
        Check.same("one", x.clearBuffer(), 1);
        type(x, "0,".repeat(30));
        Check.same("full", x.clearBuffer(), 60);
        Check.same("empty again", x.clearBuffer(), 0);
        Check.same("it saves no state", x.count(11), 0);
    }

    private static final String DIGITS = "0123456789";

    /** Texts without errors, each with all characters that may follow it. */
    private static final String[][] FOLLOWERS = {
        {"", DIGITS}, {"0", ",-"}, {"1", DIGITS + ",-"}, {"2", DIGITS + ",-"}, {"3", DIGITS + ",-"},
        {"4", "01234567,-"}, {"5", ",-"}, {"6", ",-"}, {"7", ",-"}, {"8", ",-"}, {"9", ",-"}, {"10", ",-"},
        {"19", ",-"}, {"39", ",-"}, {"40", ",-"}, {"47", ",-"}, {"0-", DIGITS}, {"47-", DIGITS}, {"0-0", ","},
        {"0-1", DIGITS + ","}, {"0-3", DIGITS + ","}, {"0-4", "01234567,"}, {"0-5", ","}, {"0-9", ","},
        {"0-10", ","}, {"0-47", ","}, {"47-0", ","}, {"47-4", "01234567,"}, {"0,", DIGITS}, {"47,", DIGITS},
        {"0-47,", DIGITS}, {"0,0", ",-"}, {"0-1,4", "01234567,-"}, {"0-1,2-", DIGITS}, {"0-1,2-4", "01234567,"},
        {"47-47,".repeat(9), DIGITS}, {"0,".repeat(29) + "4", "01234567,-"}, {"0,".repeat(29), DIGITS},
    };

    private static void syntaxErrors() {
        Sentences.terms(13, "The buffer is read from left to right; a character is a syntax error if no readings "
                + "as a text, of any length, begin with the characters before it and this character.");
        for (String[] each : FOLLOWERS) {
            int length = each[0].length();
            firstErrorOf(each[0], length);
            for (char code = 33; code <= 126; code++) {
                firstErrorOf(each[0] + code, each[1].indexOf(code) >= 0 ? length + 1 : length);
            }
        }
        firstErrorOf("47-47,".repeat(10), 60);
        firstErrorOf("47-47,".repeat(9) + "40-47-", 59);
        firstErrorOf("0,".repeat(29) + "48", 59);
    }

    private static void completeReadings() {
        Sentences.terms(14, "Readings as a text are one or more parts with \",\" between them: a block, 0 to 47, "
                + "without leading zeros, or two blocks with \"-\" between them, the second one not less than the "
                + "first one: all from the first one to the second one.");
        for (int first = 0; first <= 99; first++) {
            runsOrNot("" + first, first <= 47, first + 1);
            runsOrNot("0" + first, false, 0);
            for (int last = 0; last <= 48; last++) {
                boolean due = first <= last && last <= 47;
                runsOrNot(first + "-" + last, due, (first + last + 2) * (last - first + 1) / 2);
            }
        }
        runsOrNot("3,0-2,3,47-47,5", true, 4 + 6 + 4 + 48 + 6);
        runsOrNot("", false, 0);
    }

    /** The text on a machine whose blocks hold 1 more than their numbers. */
    private static void runsOrNot(String codes, boolean runs, int sum) {
        StickPairs x = started(1, 1, 1, 12, 12, 12, 12);
        for (int block = 0; block <= 47; block++) {
            x.write(block, block + 1);
        }
        type(x, codes);
        if (runs) {
            Check.same("run of " + codes, x.run(), sum);
        } else {
            Check.noArgument("run of " + codes, x, x::run);
        }
    }

    private static void firstErrorOf(String codes, int due) {
        StickPairs x = new StickPairs();
        type(x, codes);
        Check.look("firstError of " + codes, x, x::firstError, due);
    }

    private static void firstError() {
        Sentences.of(13, "Finds the first syntax error of the buffer. (A second block that is less than the first "
                + "one is no syntax error.)");
        firstErrorOf("48,48", 1);
        firstErrorOf("1-0", 3);
        firstErrorOf("47-0", 4);
        firstErrorOf("47-46,9-8", 9);
        firstErrorOf("1-0-", 3);
        firstErrorOf("1-0,x", 4);
    }

    private static void firstErrorReturns() {
        Sentences.of(13, "Returns the index of the first character that is a syntax error; the length of the "
                + "buffer if there is none.");
        firstErrorOf("", 0);
        firstErrorOf("0", 1);
        firstErrorOf("x", 0);
        firstErrorOf("0x", 1);
        firstErrorOf("0-", 2);
        firstErrorOf("0,", 2);
        firstErrorOf("0,".repeat(30), 60);
        firstErrorOf("0,".repeat(29) + "1x", 59);
        firstErrorOf("x".repeat(60), 0);
    }

    private static void readingInTurn() {
        Sentences.terms(14, "Blocks are read one after the other; with setting 1 as 1, a wide block with an even "
                + "number, when the next one that would be read is that with a number 1 more, in the same part, is "
                + "read with it as a pair.");
        StickPairs x = started(0, 1, 1, 3, 0, 2);
        pairsOf(x, "0-1", 1);
        pairsOf(x, "0-3", 2);
        pairsOf(x, "0-4", 2);
        pairsOf(x, "1-2", 0);
        pairsOf(x, "1-3", 1);
        pairsOf(x, "0-0", 0);
        pairsOf(x, "0", 0);
        pairsOf(x, "0-2", 1);
        pairsOf(x, "2-3", 1);
        pairsOf(x, "0,1", 0);
        pairsOf(x, "0-0,1-1", 0);
        pairsOf(x, "0-1,0-1", 2);
        pairsOf(x, "1,0-1,2", 1);
        pairsOf(x, "4,4-4", 0);
        x.set(1, 0);
        pairsOf(x, "0-4", 0);
        x.set(1, 1);
        StickPairs narrow = started(0, 1, 1, 1, 0, 12);
        pairsOf(narrow, "0-12", 1);
        pairsOf(narrow, "2-3", 0);
        pairsOf(started(1, 1, 1, 3, 0, 3), "0-5", 0);
        pairsOf(started(2, 1, 1, 3, 0, 3), "0-2", 0);
        pairsOf(started(0, 1, 1, 12, 12, 12, 12), "0-47", 24);
        pairsOf(started(0, 1, 1, 12, 12, 12, 12), "46-47", 1);
        // The wide blocks are those of the map that was started, whatever the setting is now.
        StickPairs stays = started(0, 1, 1, 2, 0, 2);
        stays.set(0, 1);
        pairsOf(stays, "0-3", 2);
    }

    private static void pairsOf(StickPairs x, String codes, int due) {
        int before = x.count(6);
        run(x, codes);
        Check.same("pairs of " + codes, x.count(6) - before, due);
    }

    private static void run() {
        Sentences.of(14, "Reads the blocks that the buffer tells, up to the first one for which read() would throw "
                + "an exception, and clears the buffer. (A pair is read if both can be; otherwise the first one of "
                + "both is read by itself, if it can be.) Undoable, as one call, also if none is read.");
        StickPairs x = started(0, 1, 1, 2, 0, 1);
        fill(x, 10);
        Check.same("to the last block", run(x, "0-2"), 30);
        Check.same("beyond the last block", run(x, "1-47,0"), 20);
        Check.same("beyond it at once", run(x, "3,0"), 0);
        Check.same("the parts before", run(x, "0,1,3,2"), 20);
        Check.same("without a map", run(with(1, 1, 4), "0"), 0);
        x.fail(2);
        counts("before", x, 2, 1, 3, 2, 6, 7, 1, 0, 1);
        Check.same("the first of a pair by itself", run(x, "0-2"), 10);
        counts("the first of a pair by itself", x, 2, 1, 3, 2, 7, 8, 1, 0, 1);
        Check.same("what is behind is not read", run(x, "1-2,0"), 0);
        StickPairs second = started(0, 1, 1, 2, 0, 2);
        fill(second, 10);
        second.fail(0);
        Check.same("the second of a pair is not read by itself", run(second, "0-1"), 0);
        Check.same("no block is read", second.count(5), 0);
        StickPairs undone = started(0, 1, 3, 4, 0, 4);
        Check.undoable("run, as one call", undone, () -> run(undone, "0-3,9,0"), 0);
        Check.same("the buffer is cleared", undone.clearBuffer(), 0);
        StickPairs none = new StickPairs();
        type(none, "0-47");
        Check.same("run, none is read", none.run(), 0);
        Check.same("one saved state", none.count(11), 1);
        Check.same("the buffer is cleared", none.clearBuffer(), 0);
        Check.same("undo", none.undo(), 0);
    }

    private static void runReturns() {
        Sentences.of(14, "Returns the sum of the values that are read.");
        StickPairs full = started(0, 1, 1, 12, 12, 12, 12);
        Check.same("all hold 0", run(full, "0-47"), 0);
        full.write(47, 99);
        Check.same("one alone", run(full, "47"), 99);
        Check.same("one of all", run(full, "0-47"), 99);
        fill(full, 99);
        int read = full.count(5);
        int pairs = full.count(6);
        String most = "0-47,".repeat(10) + "10-47,1-47";
        type(full, most);
        Check.same("60 characters", full.firstError(), 60);
        Check.same("the greatest sum", full.run(), 565 * 99);
        Check.same("blocks read", full.count(5) - read, 565);
        Check.same("pairs read", full.count(6) - pairs, 10 * 24 + 19 + 23);
    }

    private static void runRefused() {
        Sentences.of(14, "Throws `IllegalArgumentException` if the buffer is not complete readings as a text, or a "
                + "second block is less than the first one");
        String[] incomplete = {"", "0-", "0,", "0,1,", "0-1,", "0,1-", "47-47,".repeat(10), "0,".repeat(30)};
        String[] wrong = {"x", ",", "-", "0x", "0,,1", "0--1", "0-1-2", "00", "48", "0-48", "0,48", "1-0x"};
        String[] less = {"1-0", "47-46", "47-0", "10-9", "0,3-2", "3-2,0", "0-1,2-1,3", "0-47,".repeat(11) + "10-9"};
        for (String[] row : new String[][] {incomplete, wrong, less}) {
            for (String codes : row) {
                StickPairs x = started(0, 1, 3, 12, 12, 12, 12);
                type(x, codes);
                Check.noArgument("run of " + codes, x, x::run);
                Check.same("the buffer stays", x.clearBuffer(), codes.length());
            }
        }
        StickPairs last = started(0, 1, 3, 12, 12, 12, 12);
        run(last, "9-10,9-9");
        Check.same("a second block that is not less", last.count(5), 3);
    }

    private static void keep() {
        Sentences.of(15, "Takes a snapshot of the state (of all that undo() would restore), in place of the one "
                + "that was.");
        StickPairs x = started(0, 2, 9, 3, 0, 2);
        x.write(0, 55);
        run(x, "0-1,0-1");
        x.set(1, 0);
        type(x, "0-1");
        long kept = x.digest();
        x.keep();
        Check.same("the first one is told", x.digest() == kept ? 1 : 0, 0);
        kept = x.digest();
        Check.same("one in place of it", x.keep(), 10);
        Check.same("the same again", x.digest(), kept);
        x.pull(0);
        x.fail(2);
        x.plug(3, 12, 1, 1);
        x.set(0, 1);
        x.start();
        x.rest(99);
        x.goBack();
        Check.same("all of it", x.digest(), kept);
        Check.same("keep saves no state", x.count(11), 6);
        x.rest(1);
        x.keep();
        x.rest(1);
        Check.same("the later one", x.goBack(), 11);
        for (int left = 5; left >= 0; left--) {
            x.undo();
        }
        Check.same("undo leaves it", x.goBack(), 11);
    }

    private static void keepReturns() {
        Sentences.of(15, "Returns the tick.");
        StickPairs x = new StickPairs();
        Check.same("at first", x.keep(), 0);
        x.rest(99);
        Check.same("later", x.keep(), 99);
        Check.same("keep takes no tick", x.count(4), 99);
    }

    private static void goBack() {
        Sentences.of(16, "Goes back to the snapshot, which stays. Undoable.");
        StickPairs x = with(1, 2, 3);
        x.keep();
        x.start();
        x.read(0);
        type(x, "0,1");
        Check.undoable("goBack", x, x::goBack, 0);
        counts("as it was", x, 1, 0, 0, 0, 0, 0, 0, 0, 0, 0, 0, 4);
        Check.same("the buffer is left", x.clearBuffer(), 3);
        x.start();
        Check.same("it stays", x.goBack(), 0);
        Check.same("the machine has not started", x.count(2), 0);
        x.undo();
        Check.same("undone", x.count(2), 3);
        x.fail(0);
        x.goBack();
        x.pull(0);
        x.goBack();
        numbers("what comes behind does not change it", x, 0, 3, 1, 2, 0, 0, 0, NONE, 0);
        StickPairs same = new StickPairs();
        same.keep();
        Check.undoable("goBack to the state that is", same, same::goBack, 0);
        Check.same("one saved state", same.count(11), 1);
    }

    private static void goBackReturns() {
        Sentences.of(16, "Returns the tick then.");
        StickPairs x = new StickPairs();
        x.keep();
        x.rest(5);
        Check.same("0", x.goBack(), 0);
        x.rest(99);
        x.keep();
        x.rest(1);
        Check.same("99", x.goBack(), 99);
        Check.same("the tick", x.count(4), 99);
    }

    private static void goBackRefused() {
        Sentences.of(16, "Throws `IllegalStateException` if there is no snapshot");
        StickPairs x = new StickPairs();
        Check.noState("at first", x, x::goBack);
        x.plug(0, 1, 1, 1);
        x.start();
        Check.noState("with saved states alone", x, x::goBack);
        x.keep();
        x.undo();
        x.undo();
        Check.same("undo leaves it", x.goBack(), 0);
        Check.same("blocks", x.count(2), 1);
    }

    private static void undo() {
        Sentences.of(17, "Restores the latest saved state, and drops it.");
        StickPairs x = started(0, 2, 9, 3, 0, 2);
        long first = x.digest();
        x.write(4, 44);
        long second = x.digest();
        x.read(4);
        x.undo();
        Check.same("the latest", x.digest(), second);
        Check.same("its value", x.count(10), 44);
        x.undo();
        Check.same("the one before", x.digest(), first);
    }

    private static void undoReturns() {
        Sentences.of(17, "Returns how many saved states are left.");
        StickPairs x = new StickPairs();
        x.rest(1);
        Check.same("of one", x.undo(), 0);
        for (int call = 0; call < 6; call++) {
            x.rest(1);
        }
        Check.same("of six", x.undo(), 5);
        x.rest(1);
        x.rest(1);
        Check.same("of six again", x.undo(), 5);
        for (int left = 4; left >= 0; left--) {
            Check.same("of " + (left + 1), x.undo(), left);
        }
    }

    private static void undoRefused() {
        Sentences.of(17, "Throws `IllegalStateException` if there is none");
        StickPairs x = new StickPairs();
        x.rest(1);
        x.undo();
        Check.noState("all are dropped", x, x::undo);
        StickPairs y = new StickPairs();
        Check.noState("at first", y, y::undo);
        y.keep();
        y.append('0');
        y.firstError();
        y.clearBuffer();
        Check.noState("behind calls that are not undoable", y, y::undo);
        Check.noState("behind a refused call", y, y::start);
        Check.noState("behind a refused call", y, y::undo);
    }

    private static void undoableSaves() {
        Sentences.terms(17, "Each method that is marked \"undoable\" and does not throw an exception saves the "
                + "state from before it (also if it changes nothing): all, also what is counted so far, but the "
                + "buffer, the snapshot and the saved states.");
        StickPairs x = started(0, 1, 9, 3, 0, 2);
        Check.undoable("set that changes nothing", x, () -> x.set(0, 0), 0);
        Check.undoable("write that changes nothing", x, () -> x.write(0, 0), 0);
        Check.same("both are saved", x.count(11), 6);
        StickPairs y = started(0, 1, 9, 3, 0, 2);
        run(y, "0-1,0-1");
        counts("counted", y, 2, 0, 5, 4, 10, 4, 2, 8, 0, 1, 0, 5);
        y.start();
        Check.same("starts", y.count(9), 2);
        y.undo();
        counts("starts undone", y, 2, 0, 5, 4, 10, 4, 2, 8, 0, 1, 0, 5);
        numbers("from when on a rank is free", y, 0, 3, 1, 9, 0, 1, 18, NONE, 2);
        type(y, "0-");
        y.keep();
        y.undo();
        counts("all undone", y, 2, 0, 5, 4, 0, 0, 0, 0, 0, 1, 0, 4);
        numbers("all undone", y, 0, 3, 1, 9, 0, 1, 0, NONE, 0);
        Check.same("the buffer is left", y.clearBuffer(), 2);
        Check.same("the snapshot is left", y.goBack(), 10);
        y.undo();
        Check.same("the saved states are as they were", y.undo(), 3);
        Check.same("the start undone", y.count(2), 0);
    }

    private static void sixAreSaved() {
        Sentences.terms(17, "At most 6 states are saved; the oldest one is dropped first.");
        StickPairs x = new StickPairs();
        for (int call = 1; call <= 20; call++) {
            Check.same("rest", x.rest(1), call);
            Check.same("saved", x.count(11), Math.min(6, call));
        }
        for (int left = 5; left >= 0; left--) {
            Check.same("undo", x.undo(), left);
            Check.same("the tick", x.count(4), 14 + left);
        }
        Check.noState("the seventh", x, x::undo);
        Check.same("the oldest six are gone", x.count(4), 14);
        x.rest(1);
        Check.same("one again", x.undo(), 0);
    }

    /** A machine with a full row of saved states, a snapshot, a wrong text, and a stick that failed. */
    static StickPairs crowded() {
        StickPairs x = started(0, 1, 9, 2, 2);
        x.rest(5);
        x.keep();
        x.fail(1);
        x.set(0, 2);
        for (int call = 0; call < 6; call++) {
            x.rest(1);
        }
        type(x, "1-0");
        return x;
    }

    private static void refusedCallsChangeNothing() {
        Sentences.terms(17, "A call that throws an exception changes nothing.");
        StickPairs x = crowded();
        Check.noIndex("plug", x, () -> x.plug(4, 1, 1, 1));
        Check.noArgument("plug", x, () -> x.plug(2, 13, 1, 1));
        Check.noState("plug", x, () -> x.plug(0, 1, 1, 1));
        Check.noIndex("pull", x, () -> x.pull(-1));
        Check.noState("pull", x, () -> x.pull(2));
        Check.noIndex("fail", x, () -> x.fail(4));
        Check.noState("fail", x, () -> x.fail(1));
        Check.noState("start", x, x::start);
        Check.noIndex("write", x, () -> x.write(4, 1));
        Check.noArgument("write", x, () -> x.write(0, 100));
        Check.noState("write", x, () -> x.write(2, 1));
        Check.noIndex("read", x, () -> x.read(-1));
        Check.noState("read", x, () -> x.read(3));
        Check.noArgument("rest", x, () -> x.rest(0));
        Check.noIndex("set", x, () -> x.set(2, 0));
        Check.noArgument("set", x, () -> x.set(1, 2));
        Check.noArgument("append", x, () -> x.append(127));
        Check.noArgument("run", x, x::run);
        Check.noIndex("slot", x, () -> x.slot(4, 0));
        Check.noArgument("slot", x, () -> x.slot(0, 8));
        Check.noIndex("where", x, () -> x.where(4, 0));
        Check.noArgument("where", x, () -> x.where(0, 7));
        Check.noIndex("lies", x, () -> x.lies(0, 12));
        Check.noArgument("count", x, () -> x.count(12));
        Check.noIndex("setting", x, () -> x.setting(2));
        Check.noArgument("sweep", x, () -> x.sweep(3));
        Check.noArgument("ifStarted", x, () -> x.ifStarted(0, 2));
        likeCrowded("behind all of these", x);
        StickPairs y = new StickPairs();
        Check.noState("stop", y, y::stop);
        Check.noState("goBack", y, y::goBack);
        Check.noState("undo", y, y::undo);
        Check.same("no saved state", y.count(11), 0);
    }

    /** The state, the saved states, the buffer and the snapshot are those of crowded(). */
    static void likeCrowded(String what, StickPairs x) {
        StickPairs other = crowded();
        Check.same(what, x.digest(), other.digest());
        for (int left = 5; left >= 0; left--) {
            Check.same(what + ", undo", x.undo(), left);
            other.undo();
            Check.same(what + ", with " + left + " saved states", x.digest(), other.digest());
        }
        Check.same(what + ", goBack", x.goBack(), 5);
        other.goBack();
        Check.same(what + ", the snapshot", x.digest(), other.digest());
    }

    private static void firstNamedException() {
        Sentences.terms(2, "If several exceptions apply, the one that is named first in the throws clause is "
                + "thrown.");
        StickPairs x = crowded();
        x.clearBuffer();
        Check.noIndex("plug: no slot, no such stick", x, () -> x.plug(4, 0, 0, 0));
        Check.noIndex("plug: no slot, no such delay", x, () -> x.plug(-1, 1, 1, 10));
        Check.noArgument("plug: no such size, a stick in the slot", x, () -> x.plug(0, 13, 1, 1));
        Check.noArgument("plug: no such ranks, a stick in the slot", x, () -> x.plug(1, 1, 3, 1));
        Check.noArgument("plug: no such delay, a stick in the slot", x, () -> x.plug(1, 1, 1, 0));
        Check.noIndex("write: no block, no such value", x, () -> x.write(4, 100));
        Check.noArgument("write: no such value, no stick is left", x, () -> x.write(3, -1));
        Check.noIndex("set: no setting, no such value", x, () -> x.set(2, 3));
        Check.noIndex("set: no setting, no such value", x, () -> x.set(-1, -1));
        Check.noIndex("slot: no slot, no such number", x, () -> x.slot(4, 8));
        Check.noIndex("where: no block, no such number", x, () -> x.where(4, 7));
        Check.noIndex("where: no block, no such number", x, () -> x.where(-1, -1));
        StickPairs none = new StickPairs();
        Check.noIndex("write without a map: no block, no such value", none, () -> none.write(0, 100));
        Check.noIndex("where without a map: no block, no such number", none, () -> none.where(0, 7));
        type(none, "0".repeat(60));
        Check.noArgument("append: no such code, the buffer is full", none, () -> none.append(32));
        Check.noArgument("append: no such code, the buffer is full", none, () -> none.append(127));
    }
}
