/** Counts the tests that pass and fail; a test fails with its first wrong answer told, and goes on. */
final class Check {
    static int passed = 0;
    static int failed = 0;
    private static int wrong = 0;

    private Check() {
    }

    static void test(String name, Runnable body) {
        wrong = 0;
        try {
            body.run();
        } catch (RuntimeException | Error e) {
            wrong++;
            e.printStackTrace(System.out);
        }
        if (wrong == 0) {
            passed++;
        } else {
            failed++;
            System.out.println("FAILED: " + name);
        }
    }

    static void due(String what, long got, long want) {
        if (got != want) {
            wrong++;
            System.out.println(what + " answered " + got + ", due is " + want);
        }
    }

    static void holds(String what, boolean held) {
        due(what, held ? 1 : 0, 1);
    }

    /** Whether the test that runs has had no wrong answer yet: a long run stops at its first one. */
    static boolean allRight() {
        return wrong == 0;
    }
}
