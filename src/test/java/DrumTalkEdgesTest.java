import java.math.BigInteger;
import java.util.ArrayList;
import java.util.Arrays;
import java.util.List;

/** The boundary cases of the promises 1 to 19: a test of its own for each sentence, which it is named by. */
public final class DrumTalkEdgesTest extends Checks {
    private static final int[] TWELVE_PHRASES = {11, 12, 21, 22, 111, 112, 121, 122, 211, 212, 221, 222};

    public static void main(String[] args) {
        test(DrumTalkEdgesTest::aLandWithoutVillages);
        test(DrumTalkEdgesTest::inTheBeatZero);
        test(DrumTalkEdgesTest::foundWithoutACliff);
        test(DrumTalkEdgesTest::foundAwakeForAllBeats);
        test(DrumTalkEdgesTest::foundWithNothingElse);
        test(DrumTalkEdgesTest::foundAtThisPlace);
        test(DrumTalkEdgesTest::sizeBefore);
        test(DrumTalkEdgesTest::whetherItHadACliff);
        test(DrumTalkEdgesTest::forHowManyItWasAwake);
        test(DrumTalkEdgesTest::sleepsAndWakesFromNowOn);
        test(DrumTalkEdgesTest::isAPhraseAlready);
        test(DrumTalkEdgesTest::queueThenHolds);
        test(DrumTalkEdgesTest::toldItKnows);
        test(DrumTalkEdgesTest::placeOfAVillage);
        test(DrumTalkEdgesTest::cliffOfAVillage);
        test(DrumTalkEdgesTest::drummedPhraseAndBeatsLeft);
        test(DrumTalkEdgesTest::phrasesInAQueue);
        test(DrumTalkEdgesTest::phrasesThatAVillageKnows);
        test(DrumTalkEdgesTest::soundsDrownedInAVillage);
        test(DrumTalkEdgesTest::placesInAQueue);
        test(DrumTalkEdgesTest::sinceWhichBeatItKnows);
        test(DrumTalkEdgesTest::soundsAheadOfStepOne);
        test(DrumTalkEdgesTest::countOfNothing);
        test(DrumTalkEdgesTest::countOfTheMostDrummers);
        test(DrumTalkEdgesTest::countOfTheMostSounds);
        test(DrumTalkEdgesTest::countOfTheMostPairs);
        test(DrumTalkEdgesTest::wayToTheSame);
        test(DrumTalkEdgesTest::wayThatCannotBe);
        test(DrumTalkEdgesTest::wayFewestAndMostDrummings);
        test(DrumTalkEdgesTest::wayByEarshotNow);
        test(DrumTalkEdgesTest::passOneToTwoHundred);
        test(DrumTalkEdgesTest::passTellsHowMany);
        test(DrumTalkEdgesTest::reachesZeroIfItDoes);
        test(DrumTalkEdgesTest::reachesAtLeastOneIfItDoesNot);
        test(DrumTalkEdgesTest::reachesAtMostTwoHundred);
        test(DrumTalkEdgesTest::reachesAsItComes);
        test(DrumTalkEdgesTest::bestFewestOfSeveral);
        test(DrumTalkEdgesTest::bestZeroToTwentyThree);
        test(DrumTalkEdgesTest::bestBehindEightyBeats);
        test(DrumTalkEdgesTest::bestWithAFullQueue);
        test(DrumTalkEdgesTest::bestIfNoMoreKnow);
        test(DrumTalkEdgesTest::largerBehindOneToAHundredBeats);
        test(DrumTalkEdgesTest::largerSmallestOfSeveral);
        test(DrumTalkEdgesTest::largerNoneBringsMore);
        test(DrumTalkEdgesTest::largerSmallerThanNine);
        test(DrumTalkEdgesTest::largerByOne);
        test(DrumTalkEdgesTest::knownNone);
        test(DrumTalkEdgesTest::knownAll);
        test(DrumTalkEdgesTest::knownPairsDivided);
        test(DrumTalkEdgesTest::digestStart);
        test(DrumTalkEdgesTest::digestWrapsAround);
        test(DrumTalkEdgesTest::digestOfQueuesAndUnknown);
        test(DrumTalkEdgesTest::fiveHundredAndTwelveCalls);
        end();
    }

    /** Villages 0, 1, 2 at x 0, 3, 6 in a row, each heard by its neighbours alone; phrases 0 and 1 of 2 beats. */
    private static DrumTalk row() {
        DrumTalk land = new DrumTalk();
        land.found(0, 0, 1);
        land.found(3, 0, 1);
        land.found(6, 0, 1);
        land.phrase(11);
        land.phrase(22);
        return land;
    }

    /** 8 villages that all hear each other, and 12 phrases. */
    private static DrumTalk full() {
        DrumTalk land = new DrumTalk();
        for (int number = 0; number < 8; number++) {
            land.found(number, 0, 9);
        }
        for (int tones : TWELVE_PHRASES) {
            land.phrase(tones);
        }
        return land;
    }

    private static void tellTimes(DrumTalk land, int village, int phrase, int times) {
        for (int told = 0; told < times; told++) {
            land.tell(village, phrase);
        }
    }

    private static void passTimes(DrumTalk land, int beats, int times) {
        for (int passed = 0; passed < times; passed++) {
            land.pass(beats);
        }
    }

    private static void aLandWithoutVillages() {
        part("1: a land without villages");
        DrumTalk land = new DrumTalk();
        due("count(1)", land.count(1), 0);
        outside(land, "village(0, 0)", it -> it.village(0, 0));
        outside(land, "setDrum(0, 1)", it -> it.setDrum(0, 1));
        outside(land, "way(0, 0)", it -> it.way(0, 0));
        due("pass(200)", land.pass(200), 0);
        due("larger(100)", land.larger(100), -1);
        due("found(0, 0, 1)", land.found(0, 0, 1), 0);
        outside(land, "tell(0, 0) without phrases", it -> it.tell(0, 0));
        outside(land, "knows(0, 0) without phrases", it -> it.knows(0, 0));
        outside(land, "reaches(0, 0) without phrases", it -> it.reaches(0, 0));
        outside(land, "best(0, 0) without phrases", it -> it.best(0, 0));
        due("larger(100) without phrases", land.larger(100), -1);
    }

    private static void inTheBeatZero() {
        part("1: in the beat 0");
        due("count(0)", new DrumTalk().count(0), 0);
        DrumTalk land = row();
        land.tell(0, 0);
        due("knows(0, 0)", land.knows(0, 0), 0);
        DrumTalk other = new DrumTalk();
        due("count(0) of another one, made later", other.count(0), 0);
        due("count(1) of another one, made later", other.count(1), 0);
    }

    private static void foundWithoutACliff() {
        part("2: founds a village without a cliff");
        DrumTalk land = full();
        for (int number = 0; number < 8; number++) {
            due("village(" + number + ", 3)", land.village(number, 3), 0);
            due("setCliff(" + number + ", true)", land.setCliff(number, true), false);
        }
    }

    private static void foundAwakeForAllBeats() {
        part("2: which is awake for all 24 beats");
        DrumTalk land = new DrumTalk();
        for (int number = 0; number < 8; number++) {
            land.found(number, 0, 1);
            land.pass(23);
        }
        for (int beat = 0; beat < 24; beat++) {
            for (int number = 0; number < 8; number++) {
                due("village(" + number + ", 4) in " + land.count(0), land.village(number, 4), 1);
            }
            land.pass(1);
        }
        for (int number = 0; number < 8; number++) {
            due("setAwake(" + number + ", 0, 1)", land.setAwake(number, 0, 1), 24);
        }
    }

    private static void foundWithNothingElse() {
        part("2: a village that was founded drums, knows and hears nothing, with lands ahead of it looked at");
        DrumTalk land = row();
        land.tell(0, 0);
        land.best(0, 1);
        land.larger(100);
        land.pass(50);
        due("found(9, 0, 2)", land.found(9, 0, 2), 3);
        int[] figures = {9, 0, 2, 0, 1, -1, 0, 0, 0, 0};
        for (int what = 0; what < 10; what++) {
            due("village(3, " + what + ")", land.village(3, what), figures[what]);
        }
        due("sounds(3)", land.sounds(3), 0);
        due("knows(3, 0)", land.knows(3, 0), -1);
        due("reaches(3, 0)", land.reaches(3, 0), -1);
    }

    private static void foundAtThisPlace() {
        part("2: if a village is at this place");
        DrumTalk land = new DrumTalk();
        due("found(0, 30, 1)", land.found(0, 30, 1), 0);
        illegalState(land, "found(0, 30, 1) again", it -> it.found(0, 30, 1));
        due("found(0, 29, 1) with the same x", land.found(0, 29, 1), 1);
        due("found(1, 30, 1) with the same y", land.found(1, 30, 1), 2);
        due("found(30, 0, 1) with x for y", land.found(30, 0, 1), 3);
        illegalState(land, "found(0, 30, 9) on the first", it -> it.found(0, 30, 9));
        illegalState(land, "found(0, 29, 9) on one between", it -> it.found(0, 29, 9));
        illegalState(land, "found(30, 0, 9) on the last", it -> it.found(30, 0, 9));
        due("found(0, 0, 1), where none was", land.found(0, 0, 1), 4);
    }

    private static void sizeBefore() {
        part("3: returns the size before");
        DrumTalk land = full();
        int before = 9;
        for (int drum : new int[] {1, 9, 9, 2, 8, 1, 1}) {
            due("setDrum(7, " + drum + ")", land.setDrum(7, drum), before);
            due("village(7, 2)", land.village(7, 2), drum);
            due("village(6, 2)", land.village(6, 2), 9);
            before = drum;
        }
        outside(land, "setDrum(8, 1)", it -> it.setDrum(8, 1));
        outside(land, "setDrum(-1, 1)", it -> it.setDrum(-1, 1));
    }

    private static void whetherItHadACliff() {
        part("4: returns whether it had");
        DrumTalk land = full();
        boolean before = false;
        for (boolean cliff : new boolean[] {false, true, true, false, false, true}) {
            due("setCliff(7, " + cliff + ")", land.setCliff(7, cliff), before);
            due("village(7, 3)", land.village(7, 3), cliff ? 1 : 0);
            due("village(6, 3)", land.village(6, 3), 0);
            before = cliff;
        }
        outside(land, "setCliff(8, true)", it -> it.setCliff(8, true));
        outside(land, "setCliff(-1, true)", it -> it.setCliff(-1, true));
    }

    private static void forHowManyItWasAwake() {
        part("5: returns for how many it was");
        DrumTalk land = full();
        int before = 24;
        for (int beats = 1; beats <= 24; beats++) {
            due("setAwake(7, 23, " + beats + ")", land.setAwake(7, 23, beats), before);
            due("setAwake(7, 0, " + beats + ")", land.setAwake(7, 0, beats), beats);
            before = beats;
        }
        due("setAwake(6, 0, 1)", land.setAwake(6, 0, 1), 24);
        for (int wrong : new int[] {-1, 24, Integer.MIN_VALUE, Integer.MAX_VALUE}) {
            illegalArgument(land, "setAwake(7, " + wrong + ", 1)", it -> it.setAwake(7, wrong, 1));
        }
        for (int wrong : new int[] {0, 25, -1, Integer.MIN_VALUE, Integer.MAX_VALUE}) {
            illegalArgument(land, "setAwake(7, 0, " + wrong + ")", it -> it.setAwake(7, 0, wrong));
        }
        outside(land, "setAwake(8, 0, 1)", it -> it.setAwake(8, 0, 1));
        outside(land, "setAwake(-1, 0, 1)", it -> it.setAwake(-1, 0, 1));
    }

    private static void sleepsAndWakesFromNowOn() {
        part("5: the beats of the day count, not those since the call");
        DrumTalk land = row();
        land.pass(200);
        // The beat 200 is the beat 8 of its day.
        land.setAwake(0, 8, 1);
        land.setAwake(1, 9, 23);
        due("village(0, 4)", land.village(0, 4), 1);
        due("village(1, 4)", land.village(1, 4), 0);
        land.pass(1);
        due("village(0, 4) later", land.village(0, 4), 0);
        due("village(1, 4) later", land.village(1, 4), 1);
        land.pass(23);
        due("village(0, 4) a day later", land.village(0, 4), 1);
        due("village(1, 4) a day later", land.village(1, 4), 0);
    }

    private static void isAPhraseAlready() {
        part("6: or it is a phrase already");
        DrumTalk land = new DrumTalk();
        for (int number = 0; number < 11; number++) {
            due("phrase(" + TWELVE_PHRASES[number] + ")", land.phrase(TWELVE_PHRASES[number]), number);
            for (int known = 0; known <= number; known++) {
                int tones = TWELVE_PHRASES[known];
                illegalState(land, "phrase(" + tones + ") again", it -> it.phrase(tones));
            }
        }
        due("phrase(22222222), which is none", land.phrase(22222222), 11);
    }

    private static void queueThenHolds() {
        part("7: returns how many phrases are in its queue then");
        DrumTalk land = row();
        for (int told = 1; told <= 5; told++) {
            due("tell(0, 0)", land.tell(0, 0), told);
            due("tell(1, " + told % 2 + ")", land.tell(1, told % 2), told);
        }
        illegalState(land, "tell(0, 0) when 5 are", it -> it.tell(0, 0));
        illegalState(land, "tell(0, 1), which it does not know, when 5 are", it -> it.tell(0, 1));
        due("knows(0, 1)", land.knows(0, 1), -1);
        due("tell(2, 1)", land.tell(2, 1), 1);
        outside(land, "tell(3, 0)", it -> it.tell(3, 0));
        outside(land, "tell(-1, 0)", it -> it.tell(-1, 0));
        outside(land, "tell(2, 2)", it -> it.tell(2, 2));
        outside(land, "tell(2, -1)", it -> it.tell(2, -1));
    }

    private static void toldItKnows() {
        part("7: it knows it");
        DrumTalk land = full();
        land.setAwake(7, 23, 1);
        land.tell(7, 11);
        due("knows(7, 11)", land.knows(7, 11), 0);
        due("knows(7, 10)", land.knows(7, 10), -1);
        due("knows(6, 11)", land.knows(6, 11), -1);
        due("village(7, 8)", land.village(7, 8), 1);
        land.pass(3);
        land.tell(7, 0);
        land.tell(7, 11);
        due("knows(7, 0)", land.knows(7, 0), 3);
        due("knows(7, 11) when it is told again", land.knows(7, 11), 0);
        due("village(7, 8) then", land.village(7, 8), 2);
        due("village(7, 7) then", land.village(7, 7), 3);
    }

    private static void placeOfAVillage() {
        part("8: 0 x, 1 y; if what is not 0 to 9");
        DrumTalk land = new DrumTalk();
        land.found(0, 30, 1);
        land.found(30, 0, 9);
        due("village(0, 0)", land.village(0, 0), 0);
        due("village(0, 1)", land.village(0, 1), 30);
        due("village(1, 0)", land.village(1, 0), 30);
        due("village(1, 1)", land.village(1, 1), 0);
        due("village(1, 9)", land.village(1, 9), 0);
        for (int wrong : new int[] {-1, 10, Integer.MIN_VALUE, Integer.MAX_VALUE}) {
            outside(land, "village(0, " + wrong + ")", it -> it.village(0, wrong));
        }
        for (int wrong : new int[] {-1, 2, Integer.MIN_VALUE, Integer.MAX_VALUE}) {
            outside(land, "village(" + wrong + ", 0)", it -> it.village(wrong, 0));
        }
    }

    private static void cliffOfAVillage() {
        part("8: 3 1 with a cliff, else 0");
        DrumTalk land = row();
        due("village(1, 3)", land.village(1, 3), 0);
        land.setCliff(1, true);
        due("village(1, 3) with it", land.village(1, 3), 1);
        land.setCliff(1, false);
        due("village(1, 3) without it", land.village(1, 3), 0);
    }

    private static void drummedPhraseAndBeatsLeft() {
        part("8: 5 the phrase that it drums, -1 if none, 6 how many beats of this are left, 0 if none");
        DrumTalk land = full();
        int[][] due = {{-1, 0}, {0, 1}, {-1, 0}, {11, 2}, {11, 1}, {-1, 0}, {-1, 0}};
        land.tell(0, 0);
        land.tell(0, 11);
        for (int beat = 0; beat < due.length; beat++) {
            due("village(0, 5) in " + beat, land.village(0, 5), due[beat][0]);
            due("village(0, 6) in " + beat, land.village(0, 6), due[beat][1]);
            land.pass(1);
        }
    }

    private static void phrasesInAQueue() {
        part("8: 7 phrases in its queue");
        DrumTalk land = row();
        for (int queued = 0; queued <= 5; queued++) {
            due("village(0, 7)", land.village(0, 7), queued);
            if (queued < 5) {
                land.tell(0, 0);
            }
        }
        for (int queued = 4; queued >= 0; queued--) {
            land.pass(1);
            due("village(0, 7) when one is drummed", land.village(0, 7), queued);
            land.pass(1);
        }
        land.pass(10);
        due("village(0, 7) when all were drummed", land.village(0, 7), 0);
    }

    private static void phrasesThatAVillageKnows() {
        part("8: 8 phrases that it knows");
        DrumTalk land = full();
        for (int phrase = 0; phrase < 12; phrase++) {
            due("village(3, 8)", land.village(3, 8), phrase);
            land.tell(3, phrase);
            land.pass(3);
        }
        due("village(3, 8) of all", land.village(3, 8), 12);
        land.tell(3, 0);
        due("village(3, 8) when one is told again", land.village(3, 8), 12);
    }

    private static void soundsDrownedInAVillage() {
        part("8: 9 sounds that were drowned in it in all (told as they end)");
        DrumTalk land = row();
        land.setCliff(0, true);
        land.setAwake(1, 20, 1);
        land.tell(0, 0);
        // The sound lasts from 2 to 3, its echo from 6 to 7.
        int[] drowned = {0, 0, 0, 0, 1, 1, 1, 1, 2, 2};
        for (int beat = 0; beat < drowned.length; beat++) {
            due("village(1, 9) in " + beat, land.village(1, 9), drowned[beat]);
            due("count(6) in " + beat, land.count(6), drowned[beat]);
            land.pass(1);
        }
        due("village(0, 9)", land.village(0, 9), 0);
    }

    private static void placesInAQueue() {
        part("9: if there is no such village or place");
        DrumTalk land = row();
        for (int queued = 0; queued <= 5; queued++) {
            int none = queued;
            outside(land, "queue(1, " + none + ")", it -> it.queue(1, none));
            outside(land, "queue(1, -1) with " + queued, it -> it.queue(1, -1));
            if (queued > 0) {
                due("queue(1, " + (queued - 1) + ")", land.queue(1, queued - 1), (queued - 1) % 2);
            }
            if (queued < 5) {
                land.tell(1, queued % 2);
            }
        }
        due("queue(1, 0)", land.queue(1, 0), 0);
        land.pass(1);
        due("queue(1, 0) when the first has left", land.queue(1, 0), 1);
        due("queue(1, 3) when the first has left", land.queue(1, 3), 0);
        outside(land, "queue(1, 4) when the first has left", it -> it.queue(1, 4));
        for (int wrong : new int[] {-1, 3, Integer.MIN_VALUE, Integer.MAX_VALUE}) {
            outside(land, "queue(" + wrong + ", 0)", it -> it.queue(wrong, 0));
            outside(land, "queue(1, " + (wrong == 3 ? 5 : wrong) + ")", it -> it.queue(1, wrong == 3 ? 5 : wrong));
        }
    }

    private static void sinceWhichBeatItKnows() {
        part("10: in which beat it came to know it; -1 if it does not");
        DrumTalk land = row();
        due("knows(0, 0)", land.knows(0, 0), -1);
        land.tell(0, 0);
        due("knows(0, 0) in the beat 0", land.knows(0, 0), 0);
        land.pass(3);
        due("knows(1, 0) in 3", land.knows(1, 0), -1);
        land.pass(1);
        due("knows(1, 0) in 4", land.knows(1, 0), 3);
        due("knows(0, 1)", land.knows(0, 1), -1);
        for (int wrong : new int[] {-1, 3, Integer.MIN_VALUE, Integer.MAX_VALUE}) {
            outside(land, "knows(" + wrong + ", 0)", it -> it.knows(wrong, 0));
        }
        for (int wrong : new int[] {-1, 2, Integer.MIN_VALUE, Integer.MAX_VALUE}) {
            outside(land, "knows(0, " + wrong + ")", it -> it.knows(0, wrong));
        }
    }

    private static void soundsAheadOfStepOne() {
        part("11: how many sounds last in it in this beat, ahead of its step 1");
        DrumTalk land = full();
        for (int number = 1; number < 8; number++) {
            land.tell(number, 0);
        }
        // To village 0: sounds of 2 beats begin in 1 (by 1 and 2), 2 (by 3, 4 and 5) and 3 (by 6 and 7).
        int[] lasting = {0, 2, 5, 5, 2, 0, 0};
        for (int beat = 0; beat < lasting.length; beat++) {
            due("sounds(0) in " + beat, land.sounds(0), lasting[beat]);
            land.pass(1);
        }
        for (int wrong : new int[] {-1, 8, Integer.MIN_VALUE, Integer.MAX_VALUE}) {
            outside(land, "sounds(" + wrong + ")", it -> it.sounds(wrong));
        }
    }

    private static void countOfNothing() {
        part("12: count of none; if what is not 0 to 7");
        DrumTalk land = new DrumTalk();
        for (int what = 0; what <= 7; what++) {
            due("count(" + what + ")", land.count(what), 0);
        }
        for (int wrong : new int[] {-1, 8, Integer.MIN_VALUE, Integer.MAX_VALUE}) {
            outside(land, "count(" + wrong + ")", it -> it.count(wrong));
        }
        land.pass(30);
        for (int what = 1; what <= 7; what++) {
            due("count(" + what + ") behind 30 beats", land.count(what), 0);
        }
    }

    private static void countOfTheMostDrummers() {
        part("12: 3 villages that drum, 5 drummings that began in all");
        DrumTalk land = full();
        for (int number = 0; number < 8; number++) {
            land.tell(number, 4);
        }
        int[] drummers = {0, 8, 8, 0, 0};
        int[] begun = {0, 8, 8, 8, 8};
        for (int beat = 0; beat < drummers.length; beat++) {
            due("count(3) in " + beat, land.count(3), drummers[beat]);
            due("count(5) in " + beat, land.count(5), begun[beat]);
            land.pass(1);
        }
        land.tell(0, 4);
        land.pass(1);
        due("count(3) with one", land.count(3), 1);
        due("count(5) with one more", land.count(5), 9);
    }

    private static void countOfTheMostSounds() {
        part("12: 4 sounds that came to be and are not over, 6 sounds that were drowned in all");
        DrumTalk land = full();
        for (int number = 0; number < 8; number++) {
            land.setCliff(number, true);
            land.tell(number, 0);
        }
        land.pass(1);
        due("count(4) with 8 * 7 sounds and their echoes", land.count(4), 112);
        due("count(6) when they came to be", land.count(6), 0);
        land.pass(40);
        due("count(4) when all are over", land.count(4), 0);
        int drowned = 0;
        for (int number = 0; number < 8; number++) {
            drowned += land.village(number, 9);
        }
        due("count(6) when all are over", land.count(6), drowned);
    }

    private static void countOfTheMostPairs() {
        part("12: 7 pairs of a village and a phrase that it knows");
        DrumTalk land = full();
        int pairs = 0;
        for (int phrase = 0; phrase < 12; phrase++) {
            for (int number = 0; number < 8; number++) {
                due("count(7)", land.count(7), pairs);
                land.tell(number, phrase);
                pairs++;
            }
            land.pass(3);
        }
        due("count(7) of all", land.count(7), 96);
        land.tell(0, 0);
        due("count(7) when one is told again", land.count(7), 96);
    }

    private static void wayToTheSame() {
        part("13: 0 for the same");
        DrumTalk land = row();
        for (int number = 0; number < 3; number++) {
            due("way(" + number + ", " + number + ")", land.way(number, number), 0);
        }
        outside(land, "way(3, 3)", it -> it.way(3, 3));
        outside(land, "way(-1, -1)", it -> it.way(-1, -1));
    }

    private static void wayThatCannotBe() {
        part("13: -1 if it cannot");
        DrumTalk land = row();
        land.found(10, 0, 1);
        due("way(0, 3)", land.way(0, 3), -1);
        due("way(3, 0)", land.way(3, 0), -1);
        land.setDrum(3, 2);
        due("way(3, 0) with a drum that is heard", land.way(3, 0), 3);
        due("way(0, 3) with a drum that is heard", land.way(0, 3), -1);
        for (int wrong : new int[] {-1, 4, Integer.MIN_VALUE, Integer.MAX_VALUE}) {
            outside(land, "way(" + wrong + ", 0)", it -> it.way(wrong, 0));
            outside(land, "way(0, " + wrong + ")", it -> it.way(0, wrong));
        }
    }

    private static void wayFewestAndMostDrummings() {
        part("13: the fewest drummings, one village after the other");
        DrumTalk land = new DrumTalk();
        for (int number = 0; number < 8; number++) {
            land.found(number * 3, 0, 1);
        }
        for (int from = 0; from < 8; from++) {
            for (int to = 0; to < 8; to++) {
                due("way(" + from + ", " + to + ")", land.way(from, to), Math.abs(from - to));
            }
        }
        // A long way round and a short one: the short one counts.
        land.setDrum(6, 6);
        due("way(7, 0) by 6", land.way(7, 0), 2);
        due("way(0, 7) by 6", land.way(0, 7), 7);
    }

    private static void wayByEarshotNow() {
        part("13: by earshot now");
        DrumTalk land = row();
        land.setAwake(1, 5, 1);
        due("way(0, 2) when one sleeps", land.way(0, 2), 2);
        due("setDrum(0, 2)", land.setDrum(0, 2), 1);
        due("way(0, 2) with a drum for 6", land.way(0, 2), 1);
        land.setDrum(0, 1);
        due("way(0, 2) with a drum for 3", land.way(0, 2), 2);
        due("count(0)", land.count(0), 0);
    }

    private static void passOneToTwoHundred() {
        part("14: if beats is not 1 to 200");
        DrumTalk land = row();
        for (int wrong : new int[] {0, 201, -1, Integer.MIN_VALUE, Integer.MAX_VALUE}) {
            illegalArgument(land, "pass(" + wrong + ")", it -> it.pass(wrong));
        }
        due("pass(1)", land.pass(1), 0);
        due("count(0)", land.count(0), 1);
        due("pass(200)", land.pass(200), 0);
        due("count(0)", land.count(0), 201);
        // 200 beats at once are 200 times one.
        DrumTalk once = row();
        DrumTalk times = row();
        for (DrumTalk busy : new DrumTalk[] {once, times}) {
            busy.setCliff(0, true);
            busy.setAwake(2, 22, 5);
            tellTimes(busy, 0, 0, 5);
            tellTimes(busy, 2, 1, 5);
        }
        long learned = 0;
        for (int gone = 0; gone < 200; gone++) {
            learned += times.pass(1);
        }
        due("pass(200)", once.pass(200), learned);
        due("digest()", once.digest(), times.digest());
    }

    private static void passTellsHowMany() {
        part("14: returns how many times a village came to know a phrase in them");
        DrumTalk land = row();
        due("pass(1) of none", land.pass(1), 0);
        land.tell(0, 0);
        due("pass(3) ahead of it", land.pass(3), 0);
        due("pass(1) of one", land.pass(1), 1);
        due("pass(20) of the next", land.pass(20), 1);
        due("pass(200) of none more", land.pass(200), 0);
        DrumTalk all = new DrumTalk();
        for (int number = 0; number < 8; number++) {
            all.found(number, 0, 3);
        }
        all.phrase(11);
        all.tell(0, 0);
        // Villages 1 and 2 hear it in 2, 3 to 5 in 3, 6 and 7 in 4, as long as none drowns what comes to the next one.
        due("pass(2)", all.pass(2), 0);
        due("pass(1) of two", all.pass(1), 2);
        due("count(7)", all.count(7), 3);
    }

    private static void reachesZeroIfItDoes() {
        part("15: 0 if it does");
        DrumTalk land = row();
        land.tell(2, 1);
        due("reaches(2, 1) when it was told", land.reaches(2, 1), 0);
        land.pass(4);
        due("reaches(1, 1) when it was heard", land.reaches(1, 1), 0);
        land.pass(200);
        due("reaches(2, 1) long after", land.reaches(2, 1), 0);
        for (int wrong : new int[] {-1, 3, Integer.MIN_VALUE, Integer.MAX_VALUE}) {
            outside(land, "reaches(" + wrong + ", 0)", it -> it.reaches(wrong, 0));
        }
        for (int wrong : new int[] {-1, 2, Integer.MIN_VALUE, Integer.MAX_VALUE}) {
            outside(land, "reaches(0, " + wrong + ")", it -> it.reaches(0, wrong));
        }
    }

    private static void reachesAtLeastOneIfItDoesNot() {
        part("15: behind how many beats it knows it, if nothing is done");
        DrumTalk land = row();
        land.tell(0, 0);
        for (int beat = 0; beat < 4; beat++) {
            due("reaches(1, 0) in " + beat, land.reaches(1, 0), 4 - beat);
            due("reaches(2, 0) in " + beat, land.reaches(2, 0), 8 - beat);
            due("reaches(2, 1) in " + beat, land.reaches(2, 1), -1);
            due("knows(1, 0) in " + beat, land.knows(1, 0), -1);
            land.pass(1);
        }
        due("knows(1, 0)", land.knows(1, 0), 3);
    }

    /** A row of villages that are awake for the 8 beats of the sound alone, and drum it on the next day. */
    private static void reachesAtMostTwoHundred() {
        part("15: at most 200; -1 if not by then");
        int[] x = {0, 12, 24, 30, 30, 30, 18, 6};
        int[] y = {0, 0, 0, 6, 18, 30, 30, 30};
        DrumTalk land = new DrumTalk();
        land.phrase(12121212);
        for (int number = 0; number < 8; number++) {
            land.found(x[number], y[number], 4);
            land.setAwake(number, number * 5 % 24, 8);
        }
        land.pass(8);
        land.tell(0, 0);
        // It begins in 24; each next one begins 5 + 24 beats later; the last one hears it in 24 + 6 * 29 + 5 + 7.
        due("reaches(7, 0) behind 203", land.reaches(7, 0), -1);
        land.pass(2);
        due("reaches(7, 0) behind 201", land.reaches(7, 0), -1);
        land.pass(1);
        due("reaches(7, 0) behind 200", land.reaches(7, 0), 200);
        due("pass(199)", land.pass(199), 6);
        due("reaches(7, 0) behind 1", land.reaches(7, 0), 1);
        due("pass(1)", land.pass(1), 1);
        due("knows(7, 0)", land.knows(7, 0), 210);
    }

    /** What was told ahead is what comes, from each beat on: with sounds and echoes begun, drowned or still to come. */
    private static void reachesAsItComes() {
        part("15: nothing is changed, and what is told ahead is what comes");
        for (int apart = 0; apart < 12; apart++) {
            for (int cliffs = 0; cliffs < 8; cliffs++) {
                DrumTalk land = row();
                land.phrase(1212);
                for (int number = 0; number < 3; number++) {
                    land.setCliff(number, (cliffs >> number & 1) == 1);
                }
                land.setAwake(1, 2, 18);
                reachesAsItComes(land, apart);
            }
        }
    }

    private static void reachesAsItComes(DrumTalk land, int apart) {
        int[][] ahead = new int[30][9];
        land.tell(0, 0);
        land.tell(0, 2);
        passTimes(land, 1, apart);
        land.tell(2, 1);
        int start = land.count(0);
        for (int beat = 0; beat < 30; beat++) {
            for (int pair = 0; pair < 9; pair++) {
                ahead[beat][pair] = land.reaches(pair / 3, pair % 3);
            }
            land.pass(1);
        }
        land.pass(171);
        for (int pair = 0; pair < 9; pair++) {
            int known = land.knows(pair / 3, pair % 3);
            boolean told = pair == 0 || pair == 2 || pair == 7;
            for (int beat = 0; beat < 30; beat++) {
                int due = known == -1 ? -1 : told ? 0 : Math.max(0, known + 1 - start - beat);
                due("reaches(" + pair / 3 + ", " + pair % 3 + ") in " + (start + beat), ahead[beat][pair], due);
            }
        }
    }

    private static void bestFewestOfSeveral() {
        part("16: of several the fewest");
        DrumTalk land = row();
        due("best(0, 0) when any beat is as good", land.best(0, 0), 0);
        // Village 1 sleeps ahead of 10: what begins in 8 is the first that it hears, and so on till 20.
        land.setAwake(1, 10, 12);
        for (int beat = 0; beat <= 8; beat++) {
            due("best(0, 0) in " + beat, land.best(0, 0), 8 - beat);
            land.pass(1);
        }
        due("best(0, 0) in 9, as 9 is in time too", land.best(0, 0), 0);
    }

    private static void bestZeroToTwentyThree() {
        part("16: behind how many beats, 0 to 23");
        // Village 1 is awake for the 2 beats of the sound alone, which begins 2 beats behind the drumming.
        for (int from = 0; from < 24; from++) {
            DrumTalk land = row();
            land.setAwake(1, from, 2);
            int wait = from >= 2 ? from - 2 : from + 22;
            due("best(0, 0) awake from " + from, land.best(0, 0), wait);
        }
        // The queue is full till the beat 24 begins, and has room in 25.
        DrumTalk full = row();
        full.setAwake(0, 0, 1);
        full.pass(1);
        tellTimes(full, 0, 0, 5);
        due("best(0, 1) when there is room behind 24", full.best(0, 1), -1);
        full.pass(1);
        due("best(0, 1) when there is room behind 23", full.best(0, 1), 23);
        for (int wrong : new int[] {-1, 3, Integer.MIN_VALUE, Integer.MAX_VALUE}) {
            outside(full, "best(" + wrong + ", 0)", it -> it.best(wrong, 0));
        }
        for (int wrong : new int[] {-1, 2, Integer.MIN_VALUE, Integer.MAX_VALUE}) {
            outside(full, "best(0, " + wrong + ")", it -> it.best(0, wrong));
        }
    }

    /** A village that is awake in the first beat of each day alone knows phrase 1, and drums three others ahead of it. */
    private static void bestBehindEightyBeats() {
        part("16: the most villages know it behind 80 beats in all");
        DrumTalk land = new DrumTalk();
        land.found(0, 0, 1);
        land.phrase(11);
        land.phrase(22);
        land.setAwake(0, 0, 1);
        land.tell(0, 1);
        land.pass(18);
        land.found(1, 0, 1);
        tellTimes(land, 0, 0, 3);
        // It drums phrase 1 from 24 + 3 * 24 on, which is known next door behind 96 + 3 beats.
        due("best(0, 1) behind 81 beats", land.best(0, 1), -1);
        land.pass(1);
        due("best(0, 1) behind 80 beats", land.best(0, 1), 0);
        land.tell(0, 1);
        due("reaches(1, 1)", land.reaches(1, 1), 80);
    }

    private static void bestWithAFullQueue() {
        part("16: if its queue is full then, nothing is told");
        DrumTalk land = row();
        land.setAwake(0, 0, 1);
        land.pass(1);
        tellTimes(land, 0, 0, 4);
        due("best(0, 1) with room for one", land.best(0, 1), 0);
        land.tell(0, 0);
        due("best(0, 1) with a full queue", land.best(0, 1), -1);
        land.setAwake(0, 0, 6);
        due("best(0, 1) with room behind 1, awake till 5", land.best(0, 1), 1);
        due("village(0, 7)", land.village(0, 7), 5);
        due("knows(0, 1)", land.knows(0, 1), -1);
    }

    private static void bestIfNoMoreKnow() {
        part("16: -1 if no more know it than without");
        DrumTalk all = row();
        all.tell(0, 0);
        due("best(0, 0) when all will know it", all.best(0, 0), -1);
        all.pass(40);
        due("best(0, 0) when all know it", all.best(0, 0), -1);
        due("best(0, 1) when none knows it", all.best(0, 1), 0);
        DrumTalk alone = new DrumTalk();
        alone.found(0, 0, 1);
        alone.phrase(11);
        due("best(0, 0) of one village", alone.best(0, 0), 0);
        alone.tell(0, 0);
        due("best(0, 0) of one village that knows it", alone.best(0, 0), -1);
    }

    /** Village 0 drums once a day, phrase 1 on the fifth one; 1 knows phrase 0, and hears 0 if its drum is larger. */
    private static void largerBehindOneToAHundredBeats() {
        part("17: behind so many beats; if beats is not 1 to 100");
        DrumTalk land = new DrumTalk();
        land.found(0, 0, 1);
        land.found(4, 0, 1);
        land.phrase(11);
        land.phrase(22);
        land.setAwake(0, 0, 1);
        land.tell(1, 0);
        land.pass(3);
        tellTimes(land, 0, 0, 4);
        land.tell(0, 1);
        // It drums phrase 1 in 24 + 4 * 24, and 1 hears it from 122 to 123.
        land.pass(20);
        due("larger(100) in 23", land.larger(100), -1);
        land.pass(1);
        due("larger(99) in 24", land.larger(99), -1);
        due("larger(100) in 24", land.larger(100), 0);
        land.pass(98);
        due("larger(1) in 122", land.larger(1), -1);
        for (int wrong : new int[] {0, 101, -1, Integer.MIN_VALUE, Integer.MAX_VALUE}) {
            illegalArgument(land, "larger(" + wrong + ")", it -> it.larger(wrong));
        }
    }

    private static void largerSmallestOfSeveral() {
        part("17: of several the smallest number");
        DrumTalk land = new DrumTalk();
        land.found(0, 0, 1);
        land.found(4, 0, 1);
        land.found(0, 4, 1);
        land.phrase(11);
        land.tell(1, 0);
        land.tell(2, 0);
        due("larger(3)", land.larger(3), -1);
        due("larger(4), by 1 as by 2", land.larger(4), 1);
        // A village that 2 alone reaches makes 2 the best one.
        land.found(0, 8, 1);
        due("larger(4), by 2 for two", land.larger(4), 2);
    }

    private static void largerNoneBringsMore() {
        part("17: -1 if none brings more");
        DrumTalk land = row();
        due("larger(100) when nothing is told", land.larger(100), -1);
        land.tell(0, 0);
        due("larger(100) when all know it anyhow", land.larger(100), -1);
        DrumTalk far = new DrumTalk();
        far.found(0, 0, 1);
        far.found(7, 0, 1);
        far.phrase(11);
        far.tell(0, 0);
        due("larger(100) when 1 greater is too small", far.larger(100), -1);
    }

    private static void largerSmallerThanNine() {
        part("17: or is smaller than 9");
        DrumTalk land = new DrumTalk();
        land.found(0, 0, 9);
        land.found(28, 0, 9);
        land.found(2, 27, 8);
        land.phrase(11);
        land.tell(0, 0);
        due("larger(100) where 28 is beyond 9", land.larger(100), -1);
        DrumTalk eight = new DrumTalk();
        eight.found(0, 0, 8);
        eight.found(27, 0, 9);
        eight.phrase(11);
        eight.tell(0, 0);
        due("larger(100) where 27 is beyond 8", eight.larger(100), 0);
        due("village(0, 2)", eight.village(0, 2), 8);
        eight.setDrum(0, 9);
        due("larger(100) where 27 is heard", eight.larger(100), -1);
    }

    private static void largerByOne() {
        part("17: the drum that had best be 1 greater");
        for (int drum = 1; drum <= 8; drum++) {
            for (int more = 0; more <= 4; more++) {
                DrumTalk land = new DrumTalk();
                land.found(0, 0, drum);
                land.found(0, 3 * drum + more, 1);
                land.phrase(11);
                land.tell(0, 0);
                due("larger(50) with " + drum + " at 3 * " + drum + " + " + more, land.larger(50),
                    more >= 1 && more <= 3 ? 0 : -1);
            }
        }
    }

    private static void knownNone() {
        part("18: 0 if there are none");
        DrumTalk land = new DrumTalk();
        dueKnown(land, 0);
        land.found(0, 0, 1);
        dueKnown(land, 0);
        DrumTalk phrases = new DrumTalk();
        phrases.phrase(11);
        dueKnown(phrases, 0);
        phrases.found(0, 0, 1);
        dueKnown(phrases, 0);
    }

    private static void knownAll() {
        part("18: pairs that it knows, divided by all pairs: all of them");
        DrumTalk land = full();
        for (int phrase = 0; phrase < 12; phrase++) {
            for (int number = 0; number < 8; number++) {
                dueKnown(land, (phrase * 8 + number) / 96.0);
                land.tell(number, phrase);
            }
            land.pass(3);
        }
        dueKnown(land, 1);
    }

    private static void knownPairsDivided() {
        part("18: pairs that it knows, divided by all pairs");
        DrumTalk land = row();
        land.tell(0, 0);
        dueKnown(land, 1.0 / 6);
        land.pass(4);
        dueKnown(land, 2.0 / 6);
        land.phrase(12);
        dueKnown(land, 2.0 / 9);
        land.found(30, 30, 1);
        dueKnown(land, 2.0 / 12);
    }

    private static void digestStart() {
        part("19: a number d starts with 769");
        // 8 numbers of count(), all 0: 769 * 31 to the eighth.
        due("digest() of a new land", new DrumTalk().digest(), 655873207792129L);
        DrumTalk land = new DrumTalk();
        land.pass(1);
        due("digest() in the beat 1", land.digest(), 655873207792129L + 27512614111L);
        land.phrase(12);
        land.pass(22);
        due("digest() with a phrase in 23", land.digest(),
            (655873207792129L + 23 * 27512614111L + 28629151L) * 31 + 12);
    }

    private static void digestWrapsAround() {
        part("19: which wraps around as a 64-bit integer");
        BigInteger most = BigInteger.valueOf(Long.MAX_VALUE);
        DrumTalk land = new DrumTalk();
        for (int number = 0; number < 8; number++) {
            land.found(30 - number, number, 9);
            due("digest() with " + (number + 1), land.digest(), unwrapped(land, new int[0]).longValue());
        }
        land.phrase(22222222);
        due("digest() with a phrase", land.digest(), unwrapped(land, new int[] {22222222}).longValue());
        due("compare with 64 bits", unwrapped(land, new int[] {22222222}).compareTo(most), 1);
        // The first that is too long for 64 bits: three phrases behind the eight numbers of count().
        DrumTalk few = new DrumTalk();
        int[] tones = {22222222, 11111111, 12121212};
        for (int told = 0; told < 3; told++) {
            few.phrase(tones[told]);
            int[] there = Arrays.copyOf(tones, told + 1);
            due("digest() with " + (told + 1) + " phrases", few.digest(), unwrapped(few, there).longValue());
            due("compare with 64 bits", unwrapped(few, there).compareTo(most), told == 2 ? 1 : -1);
        }
    }

    private static void digestOfQueuesAndUnknown() {
        part("19: village() in its order, sounds(), the phrases of its queue, and knows() for each phrase");
        DrumTalk land = full();
        due("digest() with nothing known", land.digest(), unwrapped(land, TWELVE_PHRASES).longValue());
        land.setCliff(0, true);
        land.setAwake(5, 23, 2);
        for (int told = 0; told < 5; told++) {
            land.tell(0, 11 - told);
            land.tell(5, told);
            due("digest() with " + (told + 1) + " in a queue", land.digest(), unwrapped(land, TWELVE_PHRASES).longValue());
        }
        for (int beat = 0; beat < 3; beat++) {
            land.pass(1);
            due("digest() in " + land.count(0), land.digest(), unwrapped(land, TWELVE_PHRASES).longValue());
        }
    }

    /** What digest() tells, before it wraps around. */
    private static BigInteger unwrapped(DrumTalk land, int[] tones) {
        List<Integer> numbers = new ArrayList<>();
        for (int what = 0; what <= 7; what++) {
            numbers.add(land.count(what));
        }
        for (int told : tones) {
            numbers.add(told);
        }
        for (int number = 0; number < land.count(1); number++) {
            for (int what = 0; what <= 9; what++) {
                numbers.add(land.village(number, what));
            }
            numbers.add(land.sounds(number));
            for (int index = 0; index < land.village(number, 7); index++) {
                numbers.add(land.queue(number, index));
            }
            for (int phrase = 0; phrase < tones.length; phrase++) {
                numbers.add(land.knows(number, phrase));
            }
        }
        BigInteger d = BigInteger.valueOf(769);
        for (int number : numbers) {
            d = d.multiply(BigInteger.valueOf(31)).add(BigInteger.valueOf(number));
        }
        return d;
    }

    private static void fiveHundredAndTwelveCalls() {
        part("What it is: at most 512 calls after it has been made");
        DrumTalk land = new DrumTalk();
        land.found(0, 0, 1);
        land.found(1, 0, 1);
        land.phrase(11);
        land.setAwake(0, 8, 1);
        // Calls 5 to 508 are these: 504 * 200 beats, of which the last ends in the beat 0 of a day.
        passTimes(land, 200, 504);
        due("tell(0, 0)", land.tell(0, 0), 1);
        due("pass(200)", land.pass(200), 1);
        due("knows(1, 0)", land.knows(1, 0), 100800 + 8 + 2);
        due("count(0)", land.count(0), 101000);
    }
}
