/** Tests of the promises 1 to 19, one method a promise and a few for the rules of a beat. */
public final class DrumTalkTest extends Checks {
    public static void main(String[] args) {
        test(DrumTalkTest::aNewObject);
        test(DrumTalkTest::found);
        test(DrumTalkTest::setDrum);
        test(DrumTalkTest::setCliff);
        test(DrumTalkTest::setAwake);
        test(DrumTalkTest::phrase);
        test(DrumTalkTest::tell);
        test(DrumTalkTest::village);
        test(DrumTalkTest::queue);
        test(DrumTalkTest::knows);
        test(DrumTalkTest::sounds);
        test(DrumTalkTest::count);
        test(DrumTalkTest::way);
        test(DrumTalkTest::pass);
        test(DrumTalkTest::reaches);
        test(DrumTalkTest::best);
        test(DrumTalkTest::larger);
        test(DrumTalkTest::known);
        test(DrumTalkTest::digest);
        test(DrumTalkTest::earshotAndTime);
        test(DrumTalkTest::drummingGoesOn);
        test(DrumTalkTest::echoes);
        test(DrumTalkTest::disturbances);
        test(DrumTalkTest::endsOfSounds);
        end();
    }

    /** Villages 0, 1, 2 at x 0, 3, 6 in a row, each heard by its neighbours alone; phrases 0: 12, 1: 121, 2: 1212. */
    private static DrumTalk row() {
        DrumTalk land = new DrumTalk();
        land.found(0, 0, 1);
        land.found(3, 0, 1);
        land.found(6, 0, 1);
        land.phrase(12);
        land.phrase(121);
        land.phrase(1212);
        return land;
    }

    private static void aNewObject() {
        part("1 a new object");
        DrumTalk land = new DrumTalk();
        for (int what = 0; what < 8; what++) {
            due("count(" + what + ")", land.count(what), 0);
        }
        outside(land, "village(0, 0)", it -> it.village(0, 0));
        dueKnown(land, 0);
    }

    private static void found() {
        part("2 found");
        DrumTalk land = new DrumTalk();
        illegalArgument(land, "found(-1, 0, 1)", it -> it.found(-1, 0, 1));
        illegalArgument(land, "found(31, 0, 1)", it -> it.found(31, 0, 1));
        illegalArgument(land, "found(0, -1, 1)", it -> it.found(0, -1, 1));
        illegalArgument(land, "found(0, 31, 1)", it -> it.found(0, 31, 1));
        illegalArgument(land, "found(0, 0, 0)", it -> it.found(0, 0, 0));
        illegalArgument(land, "found(0, 0, 10)", it -> it.found(0, 0, 10));
        illegalArgument(land, "found(smallest)", it -> it.found(Integer.MIN_VALUE, Integer.MIN_VALUE, 1));
        due("found(0, 30, 9)", land.found(0, 30, 9), 0);
        due("found(30, 0, 1)", land.found(30, 0, 1), 1);
        illegalState(land, "found(0, 30, 1)", it -> it.found(0, 30, 1));
        illegalArgument(land, "found(0, 30, 0)", it -> it.found(0, 30, 0));
        due("found(0, 0, 5)", land.found(0, 0, 5), 2);
        due("village(0, 0)", land.village(0, 0), 0);
        due("village(0, 1)", land.village(0, 1), 30);
        due("village(0, 2)", land.village(0, 2), 9);
        due("village(1, 0)", land.village(1, 0), 30);
        due("village(1, 3)", land.village(1, 3), 0);
        for (int number = 3; number < 8; number++) {
            due("found(" + number + ", 1, 1)", land.found(number, 1, 1), number);
        }
        illegalState(land, "found(20, 20, 1) as the ninth", it -> it.found(20, 20, 1));
        illegalArgument(land, "found(20, 20, 10) as the ninth", it -> it.found(20, 20, 10));
        for (int beat = 0; beat < 24; beat++) {
            due("village(7, 4) in the beat " + beat, land.village(7, 4), 1);
            land.pass(1);
        }
    }

    private static void setDrum() {
        part("3 setDrum");
        DrumTalk land = row();
        due("setDrum(0, 9)", land.setDrum(0, 9), 1);
        due("setDrum(0, 2)", land.setDrum(0, 2), 9);
        due("village(0, 2)", land.village(0, 2), 2);
        due("village(1, 2)", land.village(1, 2), 1);
        due("way(0, 2)", land.way(0, 2), 1);
        illegalArgument(land, "setDrum(0, 0)", it -> it.setDrum(0, 0));
        illegalArgument(land, "setDrum(0, 10)", it -> it.setDrum(0, 10));
        outside(land, "setDrum(3, 1)", it -> it.setDrum(3, 1));
        outside(land, "setDrum(-1, 1)", it -> it.setDrum(-1, 1));
        outside(land, "setDrum(3, 0)", it -> it.setDrum(3, 0));
        // The size when the drumming begins counts, for sounds that are on their way too.
        land.tell(0, 0);
        land.pass(1);
        due("setDrum(0, 1) while it drums", land.setDrum(0, 1), 2);
        due("pass(5)", land.pass(5), 2);
        due("knows(2, 0)", land.knows(2, 0), 4);
    }

    private static void setCliff() {
        part("4 setCliff");
        DrumTalk land = row();
        due("setCliff(1, true)", land.setCliff(1, true) ? 1 : 0, 0);
        due("setCliff(1, true)", land.setCliff(1, true) ? 1 : 0, 1);
        due("village(1, 3)", land.village(1, 3), 1);
        due("village(0, 3)", land.village(0, 3), 0);
        due("setCliff(1, false)", land.setCliff(1, false) ? 1 : 0, 1);
        due("setCliff(1, false)", land.setCliff(1, false) ? 1 : 0, 0);
        due("village(1, 3)", land.village(1, 3), 0);
        outside(land, "setCliff(3, true)", it -> it.setCliff(3, true));
        outside(land, "setCliff(-1, true)", it -> it.setCliff(-1, true));
        // A cliff that comes when the drumming has begun makes no echo, and one that goes then takes none away.
        land.tell(0, 0);
        land.pass(1);
        land.setCliff(0, true);
        due("count(4) without an echo", land.count(4), 1);
        land.tell(2, 0);
        land.setCliff(2, true);
        land.pass(1);
        land.setCliff(2, false);
        due("count(4) with an echo", land.count(4), 3);
    }

    private static void setAwake() {
        part("5 setAwake");
        DrumTalk land = row();
        due("setAwake(0, 22, 5)", land.setAwake(0, 22, 5), 24);
        due("setAwake(1, 23, 1)", land.setAwake(1, 23, 1), 24);
        due("setAwake(2, 0, 1)", land.setAwake(2, 0, 1), 24);
        due("setAwake(2, 5, 24)", land.setAwake(2, 5, 24), 1);
        due("setAwake(2, 0, 23)", land.setAwake(2, 0, 23), 24);
        for (int beat = 0; beat < 49; beat++) {
            int hour = beat % 24;
            due("village(0, 4) in the beat " + beat, land.village(0, 4), hour >= 22 || hour < 3 ? 1 : 0);
            due("village(1, 4) in the beat " + beat, land.village(1, 4), hour == 23 ? 1 : 0);
            due("village(2, 4) in the beat " + beat, land.village(2, 4), hour == 23 ? 0 : 1);
            land.pass(1);
        }
        illegalArgument(land, "setAwake(0, -1, 1)", it -> it.setAwake(0, -1, 1));
        illegalArgument(land, "setAwake(0, 24, 1)", it -> it.setAwake(0, 24, 1));
        illegalArgument(land, "setAwake(0, 0, 0)", it -> it.setAwake(0, 0, 0));
        illegalArgument(land, "setAwake(0, 0, 25)", it -> it.setAwake(0, 0, 25));
        outside(land, "setAwake(3, 0, 1)", it -> it.setAwake(3, 0, 1));
        outside(land, "setAwake(-1, 24, 25)", it -> it.setAwake(-1, 24, 25));
        due("setAwake(0, 0, 24)", land.setAwake(0, 0, 24), 5);
    }

    private static void phrase() {
        part("6 phrase");
        DrumTalk land = new DrumTalk();
        int[] none = {0, 1, 2, 3, 10, 13, 20, 21212120, 32, 102, 1211211211, 111111111, 222222222, -1, -11, -12,
            Integer.MAX_VALUE, Integer.MIN_VALUE};
        for (int tones : none) {
            illegalArgument(land, "phrase(" + tones + ")", it -> it.phrase(tones));
        }
        int[] some = {11, 12, 21, 22, 111, 2121, 12121, 212121, 2222222, 11111111, 22222222};
        for (int number = 0; number < some.length; number++) {
            due("phrase(" + some[number] + ")", land.phrase(some[number]), number);
        }
        illegalState(land, "phrase(11) again", it -> it.phrase(11));
        illegalState(land, "phrase(22222222) again", it -> it.phrase(22222222));
        due("phrase(112)", land.phrase(112), 11);
        illegalState(land, "phrase(122) as the thirteenth", it -> it.phrase(122));
        illegalArgument(land, "phrase(123) as the thirteenth", it -> it.phrase(123));
        due("count(2)", land.count(2), 12);
    }

    private static void tell() {
        part("7 tell");
        DrumTalk land = row();
        land.setAwake(0, 23, 1);
        due("tell(0, 2)", land.tell(0, 2), 1);
        due("tell(0, 0)", land.tell(0, 0), 2);
        due("tell(0, 2)", land.tell(0, 2), 3);
        due("tell(0, 2)", land.tell(0, 2), 4);
        outside(land, "tell(3, 0)", it -> it.tell(3, 0));
        outside(land, "tell(-1, 0)", it -> it.tell(-1, 0));
        outside(land, "tell(0, 3)", it -> it.tell(0, 3));
        outside(land, "tell(0, -1)", it -> it.tell(0, -1));
        due("tell(0, 0)", land.tell(0, 0), 5);
        illegalState(land, "tell(0, 1)", it -> it.tell(0, 1));
        outside(land, "tell(0, 3) to a full queue", it -> it.tell(0, 3));
        due("knows(0, 1)", land.knows(0, 1), -1);
        due("knows(0, 2)", land.knows(0, 2), 0);
        due("tell(1, 0)", land.tell(1, 0), 1);
    }

    private static void village() {
        part("8 village");
        DrumTalk land = row();
        land.setCliff(1, true);
        land.tell(1, 2);
        land.tell(1, 0);
        int[] told = {3, 0, 1, 1, 1, -1, 0, 2, 2, 0};
        int[] drumming = {3, 0, 1, 1, 1, 2, 3, 1, 2, 0};
        int[] lastBeat = {3, 0, 1, 1, 1, 2, 1, 1, 2, 0};
        int[] between = {3, 0, 1, 1, 1, -1, 0, 1, 2, 0};
        int[] second = {3, 0, 1, 1, 1, 0, 1, 0, 2, 0};
        dueVillage(land, 1, told);
        land.pass(1);
        dueVillage(land, 1, drumming);
        land.pass(2);
        dueVillage(land, 1, lastBeat);
        land.pass(1);
        dueVillage(land, 1, between);
        land.pass(1);
        dueVillage(land, 1, second);
        outside(land, "village(3, 0)", it -> it.village(3, 0));
        outside(land, "village(-1, 0)", it -> it.village(-1, 0));
        outside(land, "village(0, -1)", it -> it.village(0, -1));
        outside(land, "village(0, 10)", it -> it.village(0, 10));
    }

    private static void dueVillage(DrumTalk land, int number, int[] figures) {
        for (int what = 0; what < figures.length; what++) {
            due("village(" + number + ", " + what + ") in the beat " + land.count(0), land.village(number, what),
                figures[what]);
        }
    }

    private static void queue() {
        part("9 queue");
        DrumTalk land = row();
        outside(land, "queue(0, 0)", it -> it.queue(0, 0));
        int[] phrases = {2, 0, 2, 1, 0};
        for (int phrase : phrases) {
            land.tell(0, phrase);
        }
        for (int index = 0; index < 5; index++) {
            due("queue(0, " + index + ")", land.queue(0, index), phrases[index]);
        }
        outside(land, "queue(0, 5)", it -> it.queue(0, 5));
        outside(land, "queue(0, -1)", it -> it.queue(0, -1));
        outside(land, "queue(3, 0)", it -> it.queue(3, 0));
        outside(land, "queue(-1, 0)", it -> it.queue(-1, 0));
        land.pass(1);
        for (int index = 0; index < 4; index++) {
            due("queue(0, " + index + ") later", land.queue(0, index), phrases[index + 1]);
        }
        outside(land, "queue(0, 4)", it -> it.queue(0, 4));
    }

    private static void knows() {
        part("10 knows");
        DrumTalk land = row();
        due("knows(0, 0)", land.knows(0, 0), -1);
        land.pass(7);
        land.tell(0, 0);
        due("knows(0, 0)", land.knows(0, 0), 7);
        land.pass(5);
        due("knows(1, 0)", land.knows(1, 0), 10);
        due("knows(2, 0)", land.knows(2, 0), -1);
        // What is told again has been known before.
        land.tell(0, 0);
        land.tell(1, 0);
        due("knows(0, 0)", land.knows(0, 0), 7);
        due("knows(1, 0)", land.knows(1, 0), 10);
        outside(land, "knows(3, 0)", it -> it.knows(3, 0));
        outside(land, "knows(-1, 0)", it -> it.knows(-1, 0));
        outside(land, "knows(0, 3)", it -> it.knows(0, 3));
        outside(land, "knows(0, -1)", it -> it.knows(0, -1));
    }

    private static void sounds() {
        part("11 sounds");
        DrumTalk land = row();
        land.phrase(12121);
        land.setCliff(0, true);
        land.setDrum(0, 2);
        land.setAwake(1, 23, 1);
        land.setAwake(2, 23, 1);
        land.tell(0, 3);
        // In village 1 the sound lasts from 2 to 6, its echo from 6 to 10; in village 2 each one beat later.
        int[] inOne = {0, 0, 1, 1, 1, 1, 2, 1, 1, 1, 1, 0, 0};
        int[] inTwo = {0, 0, 0, 1, 1, 1, 1, 2, 1, 1, 1, 1, 0};
        for (int beat = 0; beat < inOne.length; beat++) {
            due("sounds(0) in the beat " + beat, land.sounds(0), 0);
            due("sounds(1) in the beat " + beat, land.sounds(1), inOne[beat]);
            due("sounds(2) in the beat " + beat, land.sounds(2), inTwo[beat]);
            land.pass(1);
        }
        due("count(6)", land.count(6), 4);
        outside(land, "sounds(3)", it -> it.sounds(3));
        outside(land, "sounds(-1)", it -> it.sounds(-1));
    }

    private static void count() {
        part("12 count");
        DrumTalk land = row();
        land.setDrum(1, 2);
        land.tell(1, 0);
        land.tell(2, 1);
        dueCount(land, new int[] {0, 3, 3, 0, 0, 0, 0, 2});
        land.pass(1);
        dueCount(land, new int[] {1, 3, 3, 2, 3, 2, 0, 2});
        land.pass(1);
        dueCount(land, new int[] {2, 3, 3, 1, 3, 2, 0, 2});
        // The sound of 0 lasts in 0 and 2 in 2 and 3: 2 drums in 2 and drowns it. That of 1 is heard in 1 until 4.
        land.pass(2);
        dueCount(land, new int[] {4, 3, 3, 0, 1, 2, 1, 3});
        land.pass(1);
        dueCount(land, new int[] {5, 3, 3, 1, 1, 3, 1, 4});
        outside(land, "count(-1)", it -> it.count(-1));
        outside(land, "count(8)", it -> it.count(8));
    }

    private static void dueCount(DrumTalk land, int[] figures) {
        for (int what = 0; what < figures.length; what++) {
            due("count(" + what + ") in the beat " + land.count(0), land.count(what), figures[what]);
        }
    }

    private static void way() {
        part("13 way");
        DrumTalk land = new DrumTalk();
        for (int number = 0; number < 8; number++) {
            land.found(number * 3, 0, 1);
        }
        due("way(0, 0)", land.way(0, 0), 0);
        due("way(0, 1)", land.way(0, 1), 1);
        due("way(0, 7)", land.way(0, 7), 7);
        due("way(7, 0)", land.way(7, 0), 7);
        land.setDrum(3, 3);
        due("way(0, 7)", land.way(0, 7), 5);
        due("way(7, 0)", land.way(7, 0), 5);
        land.setDrum(0, 7);
        due("way(0, 7)", land.way(0, 7), 1);
        outside(land, "way(-1, 0)", it -> it.way(-1, 0));
        outside(land, "way(8, 0)", it -> it.way(8, 0));
        outside(land, "way(0, -1)", it -> it.way(0, -1));
        outside(land, "way(0, 8)", it -> it.way(0, 8));
        outside(land, "way(8, 8)", it -> it.way(8, 8));
        DrumTalk pair = new DrumTalk();
        pair.found(0, 0, 1);
        pair.found(2, 2, 2);
        due("way(0, 1)", pair.way(0, 1), -1);
        due("way(1, 0)", pair.way(1, 0), 1);
        pair.setAwake(1, 0, 1);
        pair.pass(2);
        due("way(1, 0) asleep", pair.way(1, 0), 1);
    }

    private static void pass() {
        part("14 pass");
        DrumTalk land = row();
        illegalArgument(land, "pass(0)", it -> it.pass(0));
        illegalArgument(land, "pass(201)", it -> it.pass(201));
        illegalArgument(land, "pass(-1)", it -> it.pass(-1));
        due("pass(200)", land.pass(200), 0);
        due("pass(1)", land.pass(1), 0);
        due("count(0)", land.count(0), 201);
        land.tell(0, 0);
        due("pass(3)", land.pass(3), 0);
        due("pass(1)", land.pass(1), 1);
        due("pass(100)", land.pass(100), 1);
        due("count(5)", land.count(5), 3);
        due("count(4)", land.count(4), 0);
        due("count(0)", land.count(0), 305);
    }

    private static void reaches() {
        part("15 reaches");
        DrumTalk land = row();
        land.tell(0, 2);
        long before = land.digest();
        due("reaches(0, 2)", land.reaches(0, 2), 0);
        due("reaches(1, 2)", land.reaches(1, 2), 6);
        due("reaches(2, 2)", land.reaches(2, 2), 12);
        due("reaches(2, 1)", land.reaches(2, 1), -1);
        due("digest()", land.digest(), before);
        outside(land, "reaches(3, 0)", it -> it.reaches(3, 0));
        outside(land, "reaches(-1, 0)", it -> it.reaches(-1, 0));
        outside(land, "reaches(0, 3)", it -> it.reaches(0, 3));
        outside(land, "reaches(0, -1)", it -> it.reaches(0, -1));
        land.pass(6);
        due("reaches(1, 2)", land.reaches(1, 2), 0);
        due("reaches(2, 2)", land.reaches(2, 2), 6);
    }

    private static void best() {
        part("16 best");
        DrumTalk land = row();
        long before = land.digest();
        due("best(0, 0)", land.best(0, 0), 0);
        due("digest()", land.digest(), before);
        // Its neighbour sleeps ahead of 10: what is drummed in 8 is the first that it hears.
        land.setAwake(1, 10, 14);
        due("best(0, 0)", land.best(0, 0), 8);
        land.pass(5);
        due("best(0, 0) in the beat 5", land.best(0, 0), 3);
        land.tell(0, 1);
        due("best(0, 0) behind a phrase of 3 beats", land.best(0, 0), 0);
        outside(land, "best(3, 0)", it -> it.best(3, 0));
        outside(land, "best(-1, 0)", it -> it.best(-1, 0));
        outside(land, "best(0, 3)", it -> it.best(0, 3));
        outside(land, "best(0, -1)", it -> it.best(0, -1));
        bestWithoutGain();
    }

    private static void bestWithoutGain() {
        DrumTalk land = row();
        land.tell(0, 0);
        land.pass(40);
        due("count(7)", land.count(7), 3);
        due("best(0, 0) when all know it", land.best(0, 0), -1);
        // Its queue stays full till it is awake in the beat 24, and then has room in no beat that best() looks at.
        DrumTalk full = new DrumTalk();
        full.found(0, 0, 1);
        full.phrase(11);
        full.phrase(22);
        full.setAwake(0, 0, 1);
        full.pass(1);
        for (int told = 0; told < 5; told++) {
            full.tell(0, 0);
        }
        due("best(0, 1) with a full queue", full.best(0, 1), -1);
        full.pass(1);
        due("best(0, 1) when there is room behind 23", full.best(0, 1), 23);
        full.setAwake(0, 0, 3);
        due("best(0, 1) when there is room behind 1", full.best(0, 1), 1);
    }

    private static void larger() {
        part("17 larger");
        DrumTalk land = new DrumTalk();
        land.found(0, 0, 1);
        land.found(4, 0, 1);
        land.found(0, 4, 1);
        land.phrase(11);
        land.tell(1, 0);
        land.tell(2, 0);
        long before = land.digest();
        // Either brings village 0 the phrase: by 2 beats on its way and 2 of drumming, behind 4 beats.
        due("larger(3)", land.larger(3), -1);
        due("larger(4)", land.larger(4), 1);
        due("larger(100)", land.larger(100), 1);
        due("digest()", land.digest(), before);
        land.setAwake(0, 0, 1);
        due("larger(20) to one that sleeps", land.larger(20), -1);
        illegalArgument(land, "larger(0)", it -> it.larger(0));
        illegalArgument(land, "larger(101)", it -> it.larger(101));
        illegalArgument(land, "larger(-5)", it -> it.larger(-5));
        DrumTalk nine = new DrumTalk();
        nine.found(0, 0, 9);
        nine.found(28, 0, 1);
        nine.phrase(11);
        nine.tell(0, 0);
        due("larger(50) with a drum of 9", nine.larger(50), -1);
        nine.setDrum(0, 8);
        due("larger(50) with 28 beyond 27", nine.larger(50), -1);
        nine.found(27, 0, 1);
        due("larger(50) with 27 in 27", nine.larger(50), 0);
        due("larger(1) of an empty land", new DrumTalk().larger(1), -1);
    }

    private static void known() {
        part("18 known");
        DrumTalk land = new DrumTalk();
        dueKnown(land, 0);
        land.found(0, 0, 1);
        dueKnown(land, 0);
        land.phrase(11);
        dueKnown(land, 0);
        land.tell(0, 0);
        dueKnown(land, 1);
        land.found(30, 30, 1);
        land.found(15, 15, 1);
        dueKnown(land, 1.0 / 3);
        land.phrase(12);
        dueKnown(land, 1.0 / 6);
        DrumTalk phrases = new DrumTalk();
        phrases.phrase(11);
        dueKnown(phrases, 0);
    }

    private static void digest() {
        part("19 digest");
        long empty = 769;
        for (int what = 0; what < 8; what++) {
            empty = empty * 31;
        }
        due("digest() of an empty land", new DrumTalk().digest(), empty);
        DrumTalk land = row();
        land.setCliff(0, true);
        land.setAwake(1, 3, 7);
        for (int told = 0; told < 4; told++) {
            land.tell(told % 3, told % 2);
            land.tell(0, 2);
            due("digest() in the beat " + land.count(0), land.digest(), digestOf(land, new int[] {12, 121, 1212}));
            land.pass(3);
            due("digest() in the beat " + land.count(0), land.digest(), digestOf(land, new int[] {12, 121, 1212}));
        }
    }

    private static long digestOf(DrumTalk land, int[] tones) {
        long d = 769;
        for (int what = 0; what < 8; what++) {
            d = d * 31 + land.count(what);
        }
        for (int told : tones) {
            d = d * 31 + told;
        }
        for (int number = 0; number < land.count(1); number++) {
            for (int what = 0; what < 10; what++) {
                d = d * 31 + land.village(number, what);
            }
            d = d * 31 + land.sounds(number);
            for (int index = 0; index < land.village(number, 7); index++) {
                d = d * 31 + land.queue(number, index);
            }
            for (int phrase = 0; phrase < tones.length; phrase++) {
                d = d * 31 + land.knows(number, phrase);
            }
        }
        return d;
    }

    private static void earshotAndTime() {
        part("terms: earshot and time");
        for (int distance = 1; distance <= 27; distance++) {
            DrumTalk land = new DrumTalk();
            int aside = distance / 3;
            land.found(30, aside, 1);
            land.found(30 - (distance - aside), 0, 1);
            land.phrase(21212);
            int enough = (distance + 2) / 3;
            if (enough > 1) {
                land.setDrum(0, enough - 1);
                due("way by too small a drum at " + distance, land.way(0, 1), -1);
            }
            land.setDrum(0, enough);
            due("way by a drum as large as it must be at " + distance, land.way(0, 1), 1);
            land.tell(0, 0);
            due("reaches(1, 0) at " + distance, land.reaches(1, 0), distance / 3 + 1 + 5);
            land.pass(30);
            due("knows(1, 0) at " + distance, land.knows(1, 0), distance / 3 + 1 + 4);
        }
        // A village founded when the drumming has begun does not hear it.
        DrumTalk land = new DrumTalk();
        land.found(0, 0, 9);
        land.phrase(11);
        land.tell(0, 0);
        land.pass(1);
        land.found(27, 0, 1);
        due("count(4)", land.count(4), 0);
        due("pass(30)", land.pass(30), 0);
    }

    private static void drummingGoesOn() {
        part("a beat: drumming");
        DrumTalk land = new DrumTalk();
        land.found(0, 0, 1);
        land.phrase(12121212);
        land.phrase(11);
        land.setAwake(0, 2, 2);
        land.tell(0, 0);
        land.tell(0, 1);
        land.pass(2);
        due("village(0, 5) asleep", land.village(0, 5), -1);
        land.pass(1);
        due("village(0, 5) awake", land.village(0, 5), 0);
        land.pass(6);
        due("village(0, 4)", land.village(0, 4), 0);
        due("village(0, 6) when it fell asleep", land.village(0, 6), 1);
        land.pass(1);
        due("village(0, 5) at the end", land.village(0, 5), -1);
        due("village(0, 6) at the end", land.village(0, 6), 0);
        land.pass(16);
        due("village(0, 5) in the night", land.village(0, 5), -1);
        land.pass(1);
        due("village(0, 5) on the next day", land.village(0, 5), 1);
        due("count(5)", land.count(5), 2);
    }

    private static void echoes() {
        part("a beat: echoes");
        DrumTalk land = new DrumTalk();
        land.found(0, 0, 1);
        land.found(1, 0, 1);
        land.phrase(1111);
        land.phrase(22222);
        land.setCliff(0, true);
        // From 1 to 4 the sound, from 5 to 8 its echo: they do not meet. It is heard in 4 and drummed from 5 to 8.
        land.tell(0, 0);
        due("pass(5)", land.pass(5), 1);
        due("knows(1, 0)", land.knows(1, 0), 4);
        land.pass(15);
        due("village(1, 9), the echo in its own drumming", land.village(1, 9), 1);
        due("village(0, 9)", land.village(0, 9), 0);
        // A phrase of 5 tones meets its own echo, in one beat only: both drown.
        land.tell(0, 1);
        due("pass(40)", land.pass(40), 0);
        due("knows(1, 1)", land.knows(1, 1), -1);
        due("village(1, 9)", land.village(1, 9), 3);
        due("count(6)", land.count(6), 3);
        // With the sound asleep, the echo is heard.
        DrumTalk late = new DrumTalk();
        late.found(0, 0, 1);
        late.found(1, 0, 1);
        late.phrase(11);
        late.setCliff(0, true);
        late.setAwake(1, 5, 2);
        late.tell(0, 0);
        due("pass(7)", late.pass(7), 1);
        due("knows(1, 0) by the echo", late.knows(1, 0), 6);
        due("village(1, 9)", late.village(1, 9), 1);
    }

    private static void disturbances() {
        part("a beat: disturbances");
        // Two sounds that share a beat in village 1 drown each other; else it hears the first, and drums in the second.
        for (int apart = 0; apart <= 3; apart++) {
            DrumTalk land = row();
            land.tell(0, 0);
            if (apart > 0) {
                land.pass(apart);
            }
            land.tell(2, 0);
            land.pass(6);
            due("village(1, 9) with sounds " + apart + " apart", land.village(1, 9), apart < 2 ? 2 : 1);
            due("knows(1, 0) with sounds " + apart + " apart", land.knows(1, 0), apart < 2 ? -1 : 3);
        }
        // Asleep in one beat of a sound is enough, the first or the last.
        for (int from = 0; from < 5; from++) {
            DrumTalk land = row();
            land.setAwake(1, from, 2);
            land.tell(0, 0);
            land.pass(5);
            due("knows(1, 0) awake from " + from, land.knows(1, 0), from == 2 ? 3 : -1);
            due("village(1, 9) awake from " + from, land.village(1, 9), from == 2 ? 0 : 1);
        }
        // Its own drumming drowns what comes in: it drums in 3, the last beat of the sound.
        DrumTalk land = row();
        land.tell(0, 0);
        land.pass(3);
        land.tell(1, 1);
        due("pass(1)", land.pass(1), 0);
        due("village(1, 9)", land.village(1, 9), 1);
        due("knows(1, 0)", land.knows(1, 0), -1);
        // Drowned sounds last on and drown others: 12 from 2 to 3 asleep, the next from 3 on is disturbed too.
        DrumTalk chain = row();
        chain.phrase(11111111);
        chain.setAwake(1, 4, 20);
        chain.tell(0, 3);
        chain.pass(4);
        chain.tell(2, 0);
        chain.pass(10);
        due("knows(1, 0) under a drowned sound", chain.knows(1, 0), -1);
        due("village(1, 9)", chain.village(1, 9), 2);
    }

    private static void endsOfSounds() {
        part("a beat: ends of sounds");
        // Two sounds end in one beat in village 1 but may not last together, so they drown; each ends once.
        DrumTalk land = row();
        land.tell(0, 0);
        land.tell(2, 1);
        land.pass(20);
        due("village(1, 9)", land.village(1, 9), 2);
        due("count(6)", land.count(6), 2);
        due("count(4)", land.count(4), 0);
        // One that knows the phrase hears it without a new place in its queue.
        DrumTalk again = row();
        again.tell(0, 0);
        due("pass(60)", again.pass(60), 2);
        due("count(5)", again.count(5), 3);
        due("village(0, 7)", again.village(0, 7), 0);
        again.tell(0, 0);
        due("pass(60) again", again.pass(60), 0);
        due("count(5) again", again.count(5), 4);
    }
}
