import java.lang.management.ManagementFactory;
import java.util.Random;

/** What long runs of 512 calls take of the room, told by the bytes that the machine gave out. */
public final class RoomTest {
    /** 7.3 million elements of 4 bytes are due; a run stays far below. */
    private static final long MOST_BYTES = 4_000_000;

    public static void main(String[] args) {
        run(0, RoomTest::dense);
        for (int seed = 1; seed <= 5; seed++) {
            run(seed, RoomTest::dense);
            run(seed, RoomTest::manyNotes);
            run(seed, RoomTest::blocksInAndOut);
        }
        Check.end("RoomTest");
    }

    interface Run {
        int play(Galleyforge g, Random random);
    }

    private static void run(int seed, Run run) {
        com.sun.management.ThreadMXBean bean = (com.sun.management.ThreadMXBean) ManagementFactory.getThreadMXBean();
        long id = Thread.currentThread().getId();
        Random random = new Random(seed);
        long before = bean.getThreadAllocatedBytes(id);
        int calls = run.play(new Galleyforge(), random);
        long bytes = bean.getThreadAllocatedBytes(id) - before;
        Check.due("calls, at most 512: " + calls, calls <= 512 ? 1 : 0, 1);
        if (seed > 0) {
            Check.due("bytes, at most " + MOST_BYTES + ": " + bytes, bytes <= MOST_BYTES ? 1 : 0, 1);
        }
    }

    /** Words with all marks, and a question behind each of them. */
    private static int dense(Galleyforge g, Random random) {
        int calls = 0;
        for (int k = 0; k < 5; k++) {
            g.figure(k % 2, 1 + random.nextInt(12));
            g.block(k, k % 3);
            calls += 2;
        }
        g.paper(30 + random.nextInt(20), 6 + random.nextInt(4));
        while (calls < 500) {
            int place = random.nextInt(5);
            if (g.words(place) == 12) {
                g.take(place, random.nextInt(12));
                calls++;
            }
            for (int what = 0; what < 4; what++) {
                g.mark(what, random.nextInt(3) == 0 ? 1 + random.nextInt(4) : -1);
            }
            g.reference(place, 0, random.nextInt(6));
            g.cost(random.nextInt(2));
            calls += 8;
        }
        return calls;
    }

    /** Many lines of notes are left on low paper, and go on over many rows: the most states of pages. */
    private static int manyNotes(Galleyforge g, Random random) {
        int calls = 1;
        g.paper(30, 6);
        for (int place = 0; place < 5; place++) {
            g.block(place, Galleyforge.HEADING);
            calls++;
            for (int at = 0; at < 12; at++) {
                g.mark(Galleyforge.NOTE, 5);
                g.reference(place, at, 0);
                calls += 2;
            }
        }
        for (int place = 5; place < 16; place++) {
            g.block(place, Galleyforge.PARAGRAPH);
            g.style(place, Galleyforge.INDENT, 2);
            calls += 2;
            for (int at = 0; at < 12 && calls < 500; at++) {
                g.spell(3);
                g.spell(3);
                g.word(place, at);
                calls += 3;
            }
        }
        for (; calls < 512; calls++) {
            g.costAnew(random.nextInt(2));
        }
        return calls;
    }

    private static int blocksInAndOut(Galleyforge g, Random random) {
        for (int k = 0; k < 170; k++) {
            g.block(0, random.nextInt(7));
            g.pages(0);
            g.remove(0);
        }
        return 510;
    }
}
