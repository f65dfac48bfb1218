/** One boundary case, told by the promise and by the document's own words, and the test that is its alone. */
final class Bounds {
    static final String BROKEN = "BROKEN ";

    private Bounds() {
    }

    static void bound(int promise, String words, Runnable test) {
        String name = "Promise " + promise + ": " + words;
        int before = Desk.wrongSoFar();
        try {
            test.run();
        } catch (RuntimeException | Error e) {
            Desk.fail("an exception that no call is due to throw: " + e);
        }
        if (Desk.wrongSoFar() > before) {
            System.out.println(BROKEN + name);
        } else if (Boolean.getBoolean("tell")) {
            System.out.println("holds  " + name);
        }
    }
}
