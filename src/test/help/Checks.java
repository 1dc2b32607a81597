/** What the tests share. A test names the part of the document that it tests, and that name stands in what it prints. */
abstract class Checks {
    /** A call on a land. */
    interface Use {
        void on(DrumTalk land);
    }

    private static int wrong = 0;
    private static String part = "";

    static void part(String sentence) {
        part = sentence;
    }

    /** Runs one test; an exception that it does not look for is a wrong answer, and the next test runs all the same. */
    static void test(Runnable test) {
        try {
            test.run();
        } catch (RuntimeException e) {
            tellWrong("threw " + e);
        }
    }

    static void due(String call, long got, long want) {
        if (got != want) {
            tellWrong(call + " answered " + got + ", due is " + want);
        }
    }

    static void due(String call, boolean got, boolean want) {
        if (got != want) {
            tellWrong(call + " answered " + got + ", due is " + want);
        }
    }

    static void dueKnown(DrumTalk land, double want) {
        if (land.known() != want) {
            tellWrong("known() answered " + land.known() + ", due is " + want);
        }
    }

    /** The call throws exactly this exception and changes nothing that the digest tells. */
    static void dueThrow(DrumTalk land, String call, Class<?> want, Use use) {
        long before = land.digest();
        Class<?> got = thrownBy(land, use);
        if (got != want) {
            tellWrong(call + " threw " + got + ", due is " + want);
        }
        due(call + " and digest()", land.digest(), before);
    }

    static void outside(DrumTalk land, String call, Use use) {
        dueThrow(land, call, IndexOutOfBoundsException.class, use);
    }

    static void illegalArgument(DrumTalk land, String call, Use use) {
        dueThrow(land, call, IllegalArgumentException.class, use);
    }

    static void illegalState(DrumTalk land, String call, Use use) {
        dueThrow(land, call, IllegalStateException.class, use);
    }

    /** The class of the exception that the call throws, null if it throws none. */
    static Class<?> thrownBy(DrumTalk land, Use use) {
        try {
            use.on(land);
            return null;
        } catch (RuntimeException e) {
            return e.getClass();
        }
    }

    static void tellWrong(String answer) {
        wrong++;
        System.out.println(part + ": " + answer);
    }

    /** The last line of a test; a test with a wrong answer ends with exit code 1. */
    static void end() {
        System.out.println(wrong == 0 ? "all answers are as due" : wrong + " answers are not as due");
        if (wrong != 0) {
            System.exit(1);
        }
    }
}
