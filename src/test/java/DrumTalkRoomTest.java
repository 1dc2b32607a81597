import java.lang.management.ManagementFactory;

/** What a land and its dearest calls take of the room that all calls of a run share. */
public final class DrumTalkRoomTest {
    private static final long MOST_BYTES_OF_A_LAND = 64_000;
    private static final long MOST_BYTES_OF_512_CALLS = 64_000;

    private static int wrong = 0;

    private static void due(String what, boolean holds, long got) {
        if (!holds) {
            wrong++;
            System.out.println(what + ": " + got);
        }
    }

    public static void main(String[] args) {
        roomOfCalls();
        System.out.println(wrong == 0 ? "there is room" : wrong + " are not as due");
        if (wrong != 0) {
            System.exit(1);
        }
    }

    private static long bytes() {
        return ((com.sun.management.ThreadMXBean) ManagementFactory.getThreadMXBean())
            .getThreadAllocatedBytes(Thread.currentThread().getId());
    }

    private static DrumTalk busyLand() {
        DrumTalk land = new DrumTalk();
        for (int number = 0; number < 8; number++) {
            land.found(number * 2, number % 3, 3);
            land.setCliff(number, true);
        }
        land.phrase(11);
        land.phrase(12121212);
        land.phrase(121);
        return land;
    }

    private static void roomOfCalls() {
        DrumTalk land = busyLand();
        callAll(land, 1);
        long before = bytes();
        callAll(land, 512);
        long taken = bytes() - before;
        due("bytes taken by the dearest calls", taken < MOST_BYTES_OF_512_CALLS, taken);
        before = bytes();
        busyLand();
        taken = bytes() - before;
        due("bytes taken by a land", taken < MOST_BYTES_OF_A_LAND, taken);
    }

    private static void callAll(DrumTalk land, int times) {
        for (int call = 0; call < times; call++) {
            land.best(call % 8, call % 3);
            land.larger(100);
            land.reaches(call % 8, call % 3);
            land.digest();
            if (land.village(call % 8, 7) < 5) {
                land.tell(call % 8, call % 3);
            }
            land.pass(3);
            land.way(call % 8, 0);
        }
    }
}
