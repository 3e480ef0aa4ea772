/** Counts tests: a test has failed if one of its answers was not the one that is due. */
final class Due {
    private static int passed;
    private static int failed;
    private static int off;

    private Due() {
    }

    static void test(String name, Runnable body) {
        off = 0;
        try {
            body.run();
        } catch (RuntimeException | StackOverflowError thrown) {
            tell(name + ": it threw " + thrown);
            thrown.printStackTrace(System.out);
        }
        if (off == 0) {
            passed++;
        } else {
            failed++;
            System.out.println("FAILED " + name);
        }
    }

    static void is(String call, long got, long want) {
        if (got != want) tell(call + " answered " + got + ", due is " + want);
    }

    static void tell(String what) {
        off++;
        if (off <= 20) System.out.println("  " + what);
    }

    static boolean allWell() {
        return off == 0;
    }

    /** The last line that a class of tests prints; .ci/run adds these up. */
    static void close() {
        System.out.println(passed + " passed, " + failed + " failed");
        System.exit(failed == 0 ? 0 : 1);
    }
}
