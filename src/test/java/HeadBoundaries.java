import java.io.IOException;
import java.nio.charset.StandardCharsets;
import java.nio.file.Files;
import java.nio.file.Path;
import java.util.List;

/** The first lines of the document, "What it is" and "The public face", and its last ones, "Not promised". */
final class HeadBoundaries extends Machines {
    private static final int[] SIZES = {0, 1, 2, 7, 12};

    private HeadBoundaries() {
    }

    static void all() {
        whatItIs();
        publicClass();
        faceLines();
        freeParts();
        severalThreads();
        behind512Calls();
    }

    private static void whatItIs() {
        Sentences.terms(20, "Odd pairs of memory sticks that are run wide as far as they match: sticks by size, ranks "
                + "and delay in the slots of two channels, maps by which blocks lie in sticks, wide and narrow parts, "
                + "mirrors, sticks that fail, blocks that are written and read with ticks that ranks hide or do not, "
                + "where a block lies and which block lies where, that must agree, why the machine does not start, "
                + "how long a sweep takes by each map, the best way to plug sticks, readings as texts with errors by "
                + "place, a snapshot and undo.");
        for (int all = 0; all < 5 * 5 * 5 * 5; all++) {
            int[] sizes = {SIZES[all % 5], SIZES[all / 5 % 5], SIZES[all / 25 % 5], SIZES[all / 125]};
            for (int map = 0; map <= 2; map++) {
                StickPairs x = with(1, 1, sizes);
                x.set(0, map);
                if (x.why() != 0) {
                    continue;
                }
                x.start();
                int room0 = sizes[0] + sizes[1];
                int room1 = sizes[2] + sizes[3];
                Check.same("wide as far as they match", x.count(3), map == 0 ? 2 * Math.min(room0, room1) : 0);
                agree(x);
            }
        }
        agreeWithLostSticks();
    }

    /** Where a block lies, that block lies; and where a block is told to lie, it does. */
    private static void agree(StickPairs x) {
        int places = 0;
        for (int slot = 0; slot <= 3; slot++) {
            for (int number = 0; number <= 11; number++) {
                int block = x.lies(slot, number);
                if (block == NONE) {
                    continue;
                }
                places++;
                boolean first = x.where(block, 0) == slot && x.where(block, 1) == number;
                boolean again = x.where(block, 4) == slot && x.where(block, 5) == number;
                Check.same("where the block of lies(" + slot + ", " + number + ") lies", first || again ? 1 : 0, 1);
            }
        }
        int due = 0;
        for (int block = 0; block < x.count(2); block++) {
            due++;
            Check.same("lies where " + block + " lies", x.lies(x.where(block, 0), x.where(block, 1)), block);
            if (x.where(block, 3) == 2) {
                due++;
                Check.same("lies where " + block + " lies again", x.lies(x.where(block, 4), x.where(block, 5)), block);
            }
        }
        Check.same("places in all", places, due);
    }

    private static void agreeWithLostSticks() {
        for (int map = 0; map <= 2; map++) {
            StickPairs x = with(2, 3, 5, 6, 2, 3);
            x.fail(1);
            x.set(0, map);
            x.start();
            agree(x);
            x.pull(0);
            agree(x);
            x.plug(0, 12, 1, 1);
            agree(x);
            x.pull(1);
            x.plug(1, 6, 1, 1);
            x.fail(3);
            agree(x);
            x.set(0, (map + 1) % 3);
            agree(x);
            x.start();
            agree(x);
            x.undo();
            agree(x);
            x.stop();
            agree(x);
        }
    }

    /** The class with one space wherever there is any, so that a declaration on two lines is found. */
    private static String source() {
        try {
            String text = Files.readString(Path.of("src/main/java/StickPairs.java"), StandardCharsets.UTF_8);
            return text.replaceAll("\\s+", " ");
        } catch (IOException e) {
            throw new IllegalStateException("no class", e);
        }
    }

    private static void publicClass() {
        Sentences.terms(1, "public final class StickPairs {");
        Check.same("it is declared", source().contains("public final class StickPairs {") ? 1 : 0, 1);
        Sentences.terms(18, "public static final int NONE = -1;");
        Check.same("it is declared", source().contains("public static final int NONE = -1;") ? 1 : 0, 1);
    }

    /** Each line is declared in the class with its parameters' names and its throws clause, and promised so. */
    private static void faceLines() {
        String source = source();
        List<String> lines = Sentences.face();
        Check.same("calls of the face", lines.size(), 29);
        for (int i = 0; i < lines.size(); i++) {
            String line = lines.get(i);
            int promise = i + 1;
            Sentences.terms(promise, line);
            String declared = line.substring(0, line.length() - 1);
            Check.same("it is declared", source.contains(declared + " {") ? 1 : 0, 1);
            Sentences.of(promise, "`" + declared.substring("public ".length()) + "`: ");
        }
    }

    private static void freeParts() {
        Sentences.notPromised("How the state is held inside the object is free, as are the speed of each call, the "
                + "text of toString and the behaviour of equals and hashCode.");
        StickPairs x = TextBoundaries.crowded();
        Check.look("toString", x, () -> x.toString().isEmpty() ? 1 : 0, 0);
        Check.look("hashCode", x, () -> x.hashCode() == x.hashCode() ? 1 : 0, 1);
        Check.look("equals", x, () -> x.equals(x) && !x.equals(null) ? 1 : 0, 1);
    }

    private static long used(StickPairs x, int seed) {
        new AnyCalls(seed).make(x, 400);
        return x.digest();
    }

    /** Objects share nothing, so that each thread can use one of its own. */
    private static void severalThreads() {
        Sentences.notPromised("Use of one object from several threads at once is not promised to be safe.");
        long[] got = new long[8];
        Thread[] threads = new Thread[got.length];
        for (int i = 0; i < got.length; i++) {
            int each = i;
            threads[i] = new Thread(() -> got[each] = used(new StickPairs(), each));
            threads[i].start();
        }
        for (int i = 0; i < got.length; i++) {
            try {
                threads[i].join();
            } catch (InterruptedException e) {
                throw new IllegalStateException("interrupted", e);
            }
            Check.same("an object of the thread " + i, got[i], used(new StickPairs(), i));
        }
        StickPairs one = new StickPairs();
        StickPairs other = new StickPairs();
        AnyCalls ofOne = new AnyCalls(1);
        AnyCalls ofOther = new AnyCalls(2);
        for (int call = 0; call < 400; call++) {
            ofOne.make(one, 1);
            ofOther.make(other, 1);
        }
        Check.same("one of two in turn", one.digest(), got[1]);
        Check.same("the other of two in turn", other.digest(), got[2]);
    }

    private static void behind512Calls() {
        Sentences.notPromised("Nothing is promised beyond the answers and state changes described above, and nothing "
                + "about an object after its 512th call.");
        for (int seed = 0; seed < 40; seed++) {
            AnyCalls calls = new AnyCalls(seed);
            calls.make(new StickPairs(), 5000);
            Check.same("exceptions that no call's throws clause names", calls.unnamed(), 0);
            Check.same("calls that are answered", calls.answered() > 500 ? 1 : 0, 1);
            Check.same("calls that are refused", calls.refused() > 500 ? 1 : 0, 1);
        }
    }
}
