/** Counts the answers that are due and those that are not, and tells of the latter. */
final class Check {
    private final String name;
    private int passed = 0;
    private int failed = 0;

    Check(String name) {
        this.name = name;
    }

    void due(String call, long got, long want) {
        note(got == want, call + " answered " + got + ", due is " + want);
    }

    void due(String call, boolean got, boolean want) {
        note(got == want, call + " answered " + got + ", due is " + want);
    }

    void throwsIndex(String call, Runnable runnable) {
        throwsExactly(call, runnable, IndexOutOfBoundsException.class);
    }

    void throwsArgument(String call, Runnable runnable) {
        throwsExactly(call, runnable, IllegalArgumentException.class);
    }

    void throwsState(String call, Runnable runnable) {
        throwsExactly(call, runnable, IllegalStateException.class);
    }

    /** A class below the wanted one is wrong, too: the machine's own exceptions stand there. */
    void throwsExactly(String call, Runnable runnable, Class<?> wanted) {
        String thrown = "nothing";
        try {
            runnable.run();
        } catch (RuntimeException e) {
            thrown = e.getClass().getSimpleName();
        }
        note(thrown.equals(wanted.getSimpleName()),
                call + " threw " + thrown + ", due is " + wanted.getSimpleName());
    }

    private void note(boolean right, String text) {
        if (right) {
            passed++;
        } else {
            failed++;
            System.out.println(name + ": " + text);
        }
    }

    void end() {
        System.out.println(name + ": " + passed + " answers right, " + failed + " wrong");
        if (failed > 0 || passed == 0) {
            System.exit(1);
        }
    }
}
