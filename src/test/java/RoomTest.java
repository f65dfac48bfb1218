import com.sun.management.ThreadMXBean;
import java.lang.management.ManagementFactory;

/** The dearest runs of 512 calls stay far below the room that all calls of a run have together. */
public final class RoomTest {
    // The room has 7.3 million fields and elements: at four bytes each some 29 million, without what objects cost alone.
    private static final long MOST_BYTES = 4_000_000L;
    private static final ThreadMXBean MEMORY = (ThreadMXBean) ManagementFactory.getThreadMXBean();

    private static final int MOST_CALLS_OF_A_RUN = 3;

    private interface Run {
        void go(Desk desk);
    }

    public static void main(String[] args) {
        String longRow = "if case 1" + " or case 2".repeat(36) + ", we may act 1";
        String nested = "if case 1" + " and (case 2 or not case 3".repeat(11) + ")".repeat(11) + ", we may act 1";
        String notNots = "if not not case 1" + "or not not case 1".repeat(20) + ",we may act 1 unless case 1";
        String deepNots = "act 1 may be done by we unless " + "not not(case 1 or case 2 and ".repeat(4) + "case 1" + ")".repeat(4);
        String many = "act 1 and act 2 and act 3 may be done by we unless case 1;".repeat(6) + "we may act 1";
        for (String text : new String[] {longRow, nested, notNots, deepNots, many}) {
            due("letters of " + text, text, desk -> { desk.words.write(); Desk.answer(desk.words::letter); });
            due("eased ones of " + text, text, desk -> { desk.words.again(); desk.words.ease(0); });
            due("plainest ones of " + text, text, desk -> desk.words.plainest());
            due("costs of " + text, text, desk -> desk.words.cost(false));
            due("sameness of " + text, text, desk -> desk.words.same());
            due("writing of " + text, text, desk -> desk.words.write());
            due("parts of " + text, text, desk -> { desk.words.part(0); desk.words.melt(0); desk.words.melt(0); });
        }
        Desk.finish();
    }

    private static void due(String name, String text, Run run) {
        Desk desk = Desk.reading(text);
        run.go(desk);
        long before = MEMORY.getCurrentThreadAllocatedBytes();
        while (desk.words.callsLeft() >= MOST_CALLS_OF_A_RUN) {
            run.go(desk);
        }
        long bytes = MEMORY.getCurrentThreadAllocatedBytes() - before;
        if (Boolean.getBoolean("tell")) {
            System.out.println(bytes + " bytes: " + name);
        }
        Desk.due(name + " take " + bytes + " bytes, few enough", bytes < MOST_BYTES, true);
    }
}
