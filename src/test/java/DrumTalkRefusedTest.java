/**
 * 'A method that throws an exception changes nothing. If several exceptions apply, the one that is named first is
 * thrown': each refused call is made on one of two lands that were made alike, and then both must answer alike for days.
 * Calls that only tell or look ahead are tried likewise.
 */
public final class DrumTalkRefusedTest extends Checks {
    private static final int[] TWELVE_PHRASES = {11, 121, 2222, 12121, 211111, 1212121, 11111111, 22, 222, 12, 21, 212};
    private static final int[] EXTREMES = {Integer.MIN_VALUE, -1, Integer.MAX_VALUE};

    /** Makes a land; each time the same one. */
    private interface Recipe {
        DrumTalk make();
    }

    public static void main(String[] args) {
        test(DrumTalkRefusedTest::foundChangesNothing);
        test(DrumTalkRefusedTest::setDrumChangesNothing);
        test(DrumTalkRefusedTest::setCliffChangesNothing);
        test(DrumTalkRefusedTest::setAwakeChangesNothing);
        test(DrumTalkRefusedTest::phraseChangesNothing);
        test(DrumTalkRefusedTest::tellChangesNothing);
        test(DrumTalkRefusedTest::passChangesNothing);
        test(DrumTalkRefusedTest::tellingCallsChangeNothing);
        test(DrumTalkRefusedTest::lookingAheadChangesNothing);
        test(DrumTalkRefusedTest::foundArgumentsFirst);
        test(DrumTalkRefusedTest::setDrumVillageFirst);
        test(DrumTalkRefusedTest::setAwakeVillageFirst);
        test(DrumTalkRefusedTest::phraseArgumentsFirst);
        test(DrumTalkRefusedTest::tellNumbersFirst);
        end();
    }

    private static DrumTalk empty() {
        return new DrumTalk();
    }

    /** Three villages and three phrases in the middle of the day: one drums, one sleeps, sounds and echoes are there. */
    private static DrumTalk busy() {
        DrumTalk land = new DrumTalk();
        land.found(4, 4, 2);
        land.found(6, 5, 1);
        land.found(1, 4, 3);
        for (int number = 0; number < 3; number++) {
            land.phrase(TWELVE_PHRASES[number]);
        }
        land.setCliff(2, true);
        land.setAwake(1, 21, 9);
        land.pass(27);
        land.tell(2, 1);
        land.tell(0, 0);
        land.tell(0, 2);
        land.pass(4);
        land.tell(2, 0);
        land.tell(1, 2);
        land.pass(1);
        return land;
    }

    /** 8 villages and 12 phrases; the queue of 0 is full as it sleeps, that of 7 as it drums. */
    private static DrumTalk full() {
        DrumTalk land = new DrumTalk();
        for (int number = 0; number < 8; number++) {
            land.found(number * 3, number % 2 * 2, 1 + number % 3);
        }
        for (int tones : TWELVE_PHRASES) {
            land.phrase(tones);
        }
        land.setAwake(0, 20, 3);
        land.setCliff(3, true);
        land.tell(3, 6);
        land.tell(7, 5);
        land.pass(3);
        for (int told = 0; told < 5; told++) {
            land.tell(0, told);
            land.tell(7, 11 - told);
        }
        return land;
    }

    /** The call throws this exception, null if none; and the land goes on as one on which it was not made. */
    private static void changesNothing(Recipe recipe, String call, Class<?> want, Use use) {
        DrumTalk asked = recipe.make();
        DrumTalk twin = recipe.make();
        Class<?> got = thrownBy(asked, use);
        if (got != want) {
            tellWrong(call + " threw " + got + ", due is " + want);
        }
        goesOnAlike(call, asked, twin);
    }

    private static void goesOnAlike(String call, DrumTalk asked, DrumTalk twin) {
        due(call + ", then digest()", asked.digest(), twin.digest());
        due(call + ", then phrase(1221)", numberOf(asked, it -> it.phrase(1221)), numberOf(twin, it -> it.phrase(1221)));
        due(call + ", then found(9, 9, 1)", numberOf(asked, it -> it.found(9, 9, 1)), numberOf(twin, it -> it.found(9, 9, 1)));
        for (int beat = 0; beat < 30; beat++) {
            due(call + ", then pass(1)", asked.pass(1), twin.pass(1));
            due(call + ", then digest() " + beat + " beats on", asked.digest(), twin.digest());
        }
        for (int number = 0; number < twin.count(1); number++) {
            for (int phrase = 0; phrase < twin.count(2); phrase++) {
                due(call + ", then reaches()", asked.reaches(number, phrase), twin.reaches(number, phrase));
            }
            int told = number;
            due(call + ", then tell()", numberOf(asked, it -> it.tell(told, 0)), numberOf(twin, it -> it.tell(told, 0)));
        }
        for (int beats = 1; beats <= 100; beats += 33) {
            due(call + ", then pass(" + beats + ")", asked.pass(beats), twin.pass(beats));
            due(call + ", then digest() in " + twin.count(0), asked.digest(), twin.digest());
        }
        for (int number = 0; number < twin.count(1); number++) {
            due(call + ", then setAwake()", asked.setAwake(number, 0, 1), twin.setAwake(number, 0, 1));
            due(call + ", then setCliff()", asked.setCliff(number, true), twin.setCliff(number, true));
        }
    }

    private interface Asked {
        int of(DrumTalk land);
    }

    /** What the call answers, or another number for each exception. */
    private static int numberOf(DrumTalk land, Asked call) {
        try {
            return call.of(land);
        } catch (IllegalStateException e) {
            return -1000;
        } catch (IllegalArgumentException e) {
            return -1001;
        } catch (IndexOutOfBoundsException e) {
            return -1002;
        }
    }

    private static void onAll(String call, Class<?> want, Use use) {
        changesNothing(DrumTalkRefusedTest::empty, call + " on an empty land", want, use);
        onThePeopled(call, want, use);
    }

    private static void onThePeopled(String call, Class<?> want, Use use) {
        changesNothing(DrumTalkRefusedTest::busy, call + " on a busy land", want, use);
        changesNothing(DrumTalkRefusedTest::full, call + " on a full land", want, use);
    }

    private static void foundChangesNothing() {
        part("2: found, refused, changes nothing");
        for (int wrong : new int[] {-1, 31, Integer.MIN_VALUE, Integer.MAX_VALUE}) {
            onAll("found(" + wrong + ", 20, 1)", IllegalArgumentException.class, it -> it.found(wrong, 20, 1));
            onAll("found(20, " + wrong + ", 1)", IllegalArgumentException.class, it -> it.found(20, wrong, 1));
        }
        for (int wrong : new int[] {0, 10, Integer.MIN_VALUE, Integer.MAX_VALUE}) {
            onAll("found(20, 20, " + wrong + ")", IllegalArgumentException.class, it -> it.found(20, 20, wrong));
        }
        changesNothing(DrumTalkRefusedTest::full, "found(20, 20, 1) as the ninth", IllegalStateException.class,
            it -> it.found(20, 20, 1));
        changesNothing(DrumTalkRefusedTest::busy, "found(4, 4, 9) where one is", IllegalStateException.class,
            it -> it.found(4, 4, 9));
        changesNothing(DrumTalkRefusedTest::busy, "found(1, 4, 9) where one is", IllegalStateException.class,
            it -> it.found(1, 4, 9));
    }

    private static void setDrumChangesNothing() {
        part("3: setDrum, refused, changes nothing");
        for (int wrong : EXTREMES) {
            onAll("setDrum(" + wrong + ", 5)", IndexOutOfBoundsException.class, it -> it.setDrum(wrong, 5));
        }
        onAll("setDrum(first that is not there, 5)", IndexOutOfBoundsException.class, it -> it.setDrum(it.count(1), 5));
        for (int wrong : new int[] {0, 10, Integer.MIN_VALUE, Integer.MAX_VALUE}) {
            onThePeopled("setDrum(0, " + wrong + ")", IllegalArgumentException.class, it -> it.setDrum(0, wrong));
            onThePeopled("setDrum(2, " + wrong + ")", IllegalArgumentException.class, it -> it.setDrum(2, wrong));
        }
    }

    private static void setCliffChangesNothing() {
        part("4: setCliff, refused, changes nothing");
        for (int wrong : EXTREMES) {
            onAll("setCliff(" + wrong + ", true)", IndexOutOfBoundsException.class, it -> it.setCliff(wrong, true));
        }
        onAll("setCliff(first that is not there, true)", IndexOutOfBoundsException.class,
            it -> it.setCliff(it.count(1), true));
    }

    private static void setAwakeChangesNothing() {
        part("5: setAwake, refused, changes nothing");
        for (int wrong : EXTREMES) {
            onAll("setAwake(" + wrong + ", 5, 6)", IndexOutOfBoundsException.class, it -> it.setAwake(wrong, 5, 6));
        }
        onAll("setAwake(first that is not there, 5, 6)", IndexOutOfBoundsException.class,
            it -> it.setAwake(it.count(1), 5, 6));
        for (int wrong : new int[] {-1, 24, Integer.MIN_VALUE, Integer.MAX_VALUE}) {
            onThePeopled("setAwake(0, " + wrong + ", 6)", IllegalArgumentException.class, it -> it.setAwake(0, wrong, 6));
            onThePeopled("setAwake(1, " + wrong + ", 6)", IllegalArgumentException.class, it -> it.setAwake(1, wrong, 6));
        }
        for (int wrong : new int[] {0, 25, Integer.MIN_VALUE, Integer.MAX_VALUE}) {
            onThePeopled("setAwake(0, 5, " + wrong + ")", IllegalArgumentException.class, it -> it.setAwake(0, 5, wrong));
            onThePeopled("setAwake(1, 5, " + wrong + ")", IllegalArgumentException.class, it -> it.setAwake(1, 5, wrong));
        }
    }

    private static void phraseChangesNothing() {
        part("6: phrase, refused, changes nothing");
        for (int wrong : new int[] {0, 1, 2, 10, 13, 31, 111111111, 222222222, -12, Integer.MIN_VALUE, Integer.MAX_VALUE}) {
            onAll("phrase(" + wrong + ")", IllegalArgumentException.class, it -> it.phrase(wrong));
        }
        changesNothing(DrumTalkRefusedTest::full, "phrase(11112222) as the thirteenth", IllegalStateException.class,
            it -> it.phrase(11112222));
        changesNothing(DrumTalkRefusedTest::busy, "phrase(11) again", IllegalStateException.class, it -> it.phrase(11));
        changesNothing(DrumTalkRefusedTest::busy, "phrase(2222) again", IllegalStateException.class, it -> it.phrase(2222));
    }

    private static void tellChangesNothing() {
        part("7: tell, refused, changes nothing");
        for (int wrong : EXTREMES) {
            onAll("tell(" + wrong + ", 0)", IndexOutOfBoundsException.class, it -> it.tell(wrong, 0));
            onAll("tell(0, " + wrong + ")", IndexOutOfBoundsException.class, it -> it.tell(0, wrong));
        }
        onAll("tell(first that is not there, 0)", IndexOutOfBoundsException.class, it -> it.tell(it.count(1), 0));
        onAll("tell(0, first that is not there)", IndexOutOfBoundsException.class, it -> it.tell(0, it.count(2)));
        changesNothing(DrumTalkRefusedTest::full, "tell(0, 9), unknown, to a full queue", IllegalStateException.class,
            it -> it.tell(0, 9));
        changesNothing(DrumTalkRefusedTest::full, "tell(7, 0), unknown, to a full queue", IllegalStateException.class,
            it -> it.tell(7, 0));
        changesNothing(DrumTalkRefusedTest::full, "tell(7, 11), known, to a full queue", IllegalStateException.class,
            it -> it.tell(7, 11));
    }

    private static void passChangesNothing() {
        part("14: pass, refused, changes nothing");
        for (int wrong : new int[] {0, 201, -1, Integer.MIN_VALUE, Integer.MAX_VALUE}) {
            onAll("pass(" + wrong + ")", IllegalArgumentException.class, it -> it.pass(wrong));
        }
    }

    private static void tellingCallsChangeNothing() {
        part("8 to 13, 18, 19: what is told changes nothing, refused or not");
        Class<?> outside = IndexOutOfBoundsException.class;
        for (int wrong : EXTREMES) {
            onAll("village(" + wrong + ", 0)", outside, it -> it.village(wrong, 0));
            onThePeopled("village(0, " + wrong + ")", outside, it -> it.village(0, wrong));
            onAll("queue(" + wrong + ", 0)", outside, it -> it.queue(wrong, 0));
            onThePeopled("queue(0, " + wrong + ")", outside, it -> it.queue(0, wrong));
            onAll("knows(" + wrong + ", 0)", outside, it -> it.knows(wrong, 0));
            onAll("knows(0, " + wrong + ")", outside, it -> it.knows(0, wrong));
            onAll("sounds(" + wrong + ")", outside, it -> it.sounds(wrong));
            onAll("count(" + wrong + ")", outside, it -> it.count(wrong));
            onAll("way(" + wrong + ", 0)", outside, it -> it.way(wrong, 0));
            onAll("way(0, " + wrong + ")", outside, it -> it.way(0, wrong));
        }
        onAll("known() and digest()", null, it -> it.known());
        onThePeopled("what is told of village 0", null, it -> {
            it.village(0, 9);
            it.knows(0, 2);
            it.sounds(0);
            it.count(7);
            it.way(0, 2);
            it.known();
        });
        changesNothing(DrumTalkRefusedTest::full, "queue(0, 4)", null, it -> it.queue(0, 4));
        changesNothing(DrumTalkRefusedTest::full, "queue(0, 5)", outside, it -> it.queue(0, 5));
    }

    private static void lookingAheadChangesNothing() {
        part("15 to 17: nothing is changed");
        Class<?> outside = IndexOutOfBoundsException.class;
        for (int wrong : EXTREMES) {
            onAll("reaches(" + wrong + ", 0)", outside, it -> it.reaches(wrong, 0));
            onAll("reaches(0, " + wrong + ")", outside, it -> it.reaches(0, wrong));
            onAll("best(" + wrong + ", 0)", outside, it -> it.best(wrong, 0));
            onAll("best(0, " + wrong + ")", outside, it -> it.best(0, wrong));
        }
        for (int wrong : new int[] {0, 101, Integer.MIN_VALUE, Integer.MAX_VALUE}) {
            onAll("larger(" + wrong + ")", IllegalArgumentException.class, it -> it.larger(wrong));
        }
        for (int number = 0; number < 3; number++) {
            int village = number;
            onThePeopled("reaches(" + village + ", 2)", null, it -> it.reaches(village, 2));
            onThePeopled("best(" + village + ", 2)", null, it -> it.best(village, 2));
        }
        onAll("larger(1)", null, it -> it.larger(1));
        onAll("larger(100)", null, it -> it.larger(100));
    }

    private static void foundArgumentsFirst() {
        part("2: IllegalArgumentException ahead of IllegalStateException");
        Class<?> first = IllegalArgumentException.class;
        changesNothing(DrumTalkRefusedTest::full, "found(-1, 0, 1) as the ninth", first, it -> it.found(-1, 0, 1));
        changesNothing(DrumTalkRefusedTest::full, "found(0, 31, 1) as the ninth", first, it -> it.found(0, 31, 1));
        changesNothing(DrumTalkRefusedTest::full, "found(20, 20, 0) as the ninth", first, it -> it.found(20, 20, 0));
        changesNothing(DrumTalkRefusedTest::full, "found(0, 0, 10) where one is", first, it -> it.found(0, 0, 10));
        changesNothing(DrumTalkRefusedTest::busy, "found(4, 4, 0) where one is", first, it -> it.found(4, 4, 0));
    }

    private static void setDrumVillageFirst() {
        part("3: IndexOutOfBoundsException ahead of IllegalArgumentException");
        Class<?> first = IndexOutOfBoundsException.class;
        onAll("setDrum(-1, 0)", first, it -> it.setDrum(-1, 0));
        onAll("setDrum(first that is not there, 10)", first, it -> it.setDrum(it.count(1), 10));
    }

    private static void setAwakeVillageFirst() {
        part("5: IndexOutOfBoundsException ahead of IllegalArgumentException");
        Class<?> first = IndexOutOfBoundsException.class;
        onAll("setAwake(-1, 24, 1)", first, it -> it.setAwake(-1, 24, 1));
        onAll("setAwake(first that is not there, 0, 25)", first, it -> it.setAwake(it.count(1), 0, 25));
        onAll("setAwake(first that is not there, -1, 0)", first, it -> it.setAwake(it.count(1), -1, 0));
    }

    private static void phraseArgumentsFirst() {
        part("6: IllegalArgumentException ahead of IllegalStateException");
        Class<?> first = IllegalArgumentException.class;
        for (int wrong : new int[] {0, 1, 13, 111111111, -11}) {
            changesNothing(DrumTalkRefusedTest::full, "phrase(" + wrong + ") as the thirteenth", first,
                it -> it.phrase(wrong));
        }
    }

    private static void tellNumbersFirst() {
        part("7: IndexOutOfBoundsException ahead of IllegalStateException");
        Class<?> first = IndexOutOfBoundsException.class;
        changesNothing(DrumTalkRefusedTest::full, "tell(0, 12) to a full queue", first, it -> it.tell(0, 12));
        changesNothing(DrumTalkRefusedTest::full, "tell(0, -1) to a full queue", first, it -> it.tell(0, -1));
        changesNothing(DrumTalkRefusedTest::full, "tell(8, 0)", first, it -> it.tell(8, 0));
    }
}
