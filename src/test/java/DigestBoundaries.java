import java.util.ArrayList;
import java.util.List;

/** The sentences of promise 29, and those on looks that change nothing. */
final class DigestBoundaries extends Machines {
    private DigestBoundaries() {
    }

    static void all() {
        digest();
        digestReturns();
        looksChangeNothing();
        trialsChangeNothing();
    }

    /** The digest by the face's own answers; the values, the snapshot and the buffer are told beside. */
    private static long due(StickPairs x, int[] values, boolean snapshot, String buffer) {
        List<Long> list = new ArrayList<>();
        for (int what = 0; what <= 11; what++) {
            list.add((long) x.count(what));
        }
        list.add((long) x.setting(0));
        list.add((long) x.setting(1));
        for (int slot = 0; slot <= 3; slot++) {
            for (int what = 0; what <= 7; what++) {
                list.add((long) x.slot(slot, what));
            }
            for (int number = 0; number <= 11; number++) {
                list.add((long) x.lies(slot, number));
            }
        }
        for (int block = 0; block < x.count(2); block++) {
            for (int what = 0; what <= 6; what++) {
                list.add((long) x.where(block, what));
            }
            list.add((long) values[block]);
        }
        list.add((long) x.why());
        for (int map = 0; map <= 2; map++) {
            list.add((long) x.sweep(map));
        }
        for (int map = 0; map <= 2; map++) {
            list.add((long) x.ifStarted(map, 0));
            list.add((long) x.ifStarted(map, 1));
        }
        list.add((long) x.bestChange());
        list.add(Double.doubleToLongBits(x.wideShare()));
        list.add((long) Float.floatToIntBits(x.meanTicks()));
        list.add(snapshot ? 1L : 0L);
        list.add((long) buffer.length());
        for (char code : buffer.toCharArray()) {
            list.add((long) code);
        }
        long hash = 3691;
        for (long v : list) {
            hash = 31 * hash + v;
        }
        return hash;
    }

    private static void digest() {
        Sentences.of(29, "Computes a hash of the whole state. The hash starts at 3691. For each value v of the "
                + "following list, in order, the hash becomes 31 * hash + v, in long arithmetic with overflow. The "
                + "values are: count(0) to count(11); the settings 0 and 1; for each slot its numbers 0 to 7, and "
                + "lies of the numbers 0 to 11; for each block of the map its numbers 0 to 6, and the value that "
                + "it holds, NONE if no stick is left for it; why; sweep of the maps 0 to 2; ifStarted of the maps "
                + "0 to 2 with 0 and 1 each; bestChange; the bits of wideShare (as Double.doubleToLongBits); the "
                + "bits of meanTicks (as Float.floatToIntBits); 1 if there is a snapshot, otherwise 0; the length "
                + "of the buffer and each of its character codes.");
        StickPairs x = new StickPairs();
        Check.look("a new object", x, x::digest, due(x, new int[0], false, ""));
        for (int length = 1; length <= 60; length++) {
            x.append(33 + length);
        }
        StringBuilder full = new StringBuilder();
        for (int length = 1; length <= 60; length++) {
            full.append((char) (33 + length));
        }
        Check.look("a full buffer", x, x::digest, due(x, new int[0], false, full.toString()));
        x.clearBuffer();
        x.keep();
        Check.look("a snapshot", x, x::digest, due(x, new int[0], true, ""));
        StickPairs y = started(0, 2, 5, 2, 0, 1);
        Check.look("all hold 0", y, y::digest, due(y, new int[] {0, 0, 0}, false, ""));
        y.write(0, 99);
        y.write(1, 50);
        y.write(2, 1);
        y.read(1);
        y.read(1);
        Check.look("values", y, y::digest, due(y, new int[] {99, 50, 1}, false, ""));
        y.fail(2);
        Check.look("one of a failed one", y, y::digest, due(y, new int[] {99, NONE, 1}, false, ""));
        y.pull(0);
        Check.look("none is left", y, y::digest, due(y, new int[] {NONE, NONE, NONE}, false, ""));
        StickPairs mirrored = started(2, 1, 1, 2, 0, 3);
        mirrored.write(1, 7);
        mirrored.fail(0);
        Check.look("the mirror is left", mirrored, mirrored::digest, due(mirrored, new int[] {0, 7}, false, ""));
        mirrored.pull(2);
        Check.look("no mirror is left", mirrored, mirrored::digest,
                due(mirrored, new int[] {NONE, NONE}, false, ""));
        bits();
    }

    /** Shares and means whose bits are of every kind: below 1, 1, above 1, and rounded ones. */
    private static void bits() {
        int[] none = new int[48];
        for (int room = 1; room <= 12; room++) {
            for (int other = 1; other <= 12; other++) {
                StickPairs x = started(0, 1, 1, room, 0, other);
                run(x, "0-47");
                x.rest(1 + room * other % 99);
                Check.same("rooms of " + room + " and " + other, x.digest(), due(x, none, false, ""));
            }
        }
        for (int rests = 0; rests <= 250; rests++) {
            StickPairs one = started(0, 1, 1, 1);
            one.read(0);
            StickPairs three = started(0, 1, 9, 1);
            run(three, "0,0,0");
            for (int call = 0; call < rests; call++) {
                one.rest(99);
                three.rest(99);
            }
            Check.same("a mean of 1 and more", one.digest(), due(one, none, false, ""));
            Check.same("means that are rounded", three.digest(), due(three, none, false, ""));
        }
    }

    private static void digestReturns() {
        Sentences.of(29, "Returns the hash.");
        StickPairs x = new StickPairs();
        long empty = 3691;
        for (int v : new int[] {0, 0, 0, 0, 0, 0, 0, 0, 0, 0, 0, 0, 0, 1}) {
            empty = 31 * empty + v;
        }
        for (int place = 0; place < 4 * (8 + 12); place++) {
            empty = 31 * empty + NONE;
        }
        for (int v : new int[] {1, NONE, NONE, NONE, 0, 0, 0, 0, 0, 0, NONE, 0, 0, 0, 0}) {
            empty = 31 * empty + v;
        }
        Check.look("a new object, by its numbers alone", x, x::digest, empty);
        Check.same("the same again", x.digest(), empty);
        Check.same("of another new object", new StickPairs().digest(), empty);
    }

    private static void looksChangeNothing() {
        Sentences.terms(18, "Ahead of the calls `slot`, `where`, `lies`, `count`, `setting`, `why` the interface says: "
                + "---- looks; nothing is changed.");
        StickPairs x = TextBoundaries.crowded();
        for (int what = 0; what <= 11; what++) {
            for (int slot = 0; slot <= 3; slot++) {
                x.slot(slot, what % 8);
                x.lies(slot, what);
                x.where(slot, what % 7);
            }
            x.count(what);
            x.setting(what % 2);
        }
        x.why();
        TextBoundaries.likeCrowded("behind all of these", x);
    }

    private static void trialsChangeNothing() {
        Sentences.terms(24, "Ahead of the calls `sweep`, `ifStarted`, `bestChange`, `wideShare`, `meanTicks`, `digest` "
                + "the interface says: ---- what would be; nothing is changed.");
        StickPairs x = TextBoundaries.crowded();
        for (int map = 0; map <= 2; map++) {
            x.sweep(map);
            x.ifStarted(map, 0);
            x.ifStarted(map, 1);
        }
        x.bestChange();
        x.wideShare();
        x.meanTicks();
        x.digest();
        TextBoundaries.likeCrowded("behind all of these", x);
    }
}
