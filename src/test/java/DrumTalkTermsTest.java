/** The boundary cases of the document's 'Terms': a test of its own for each sentence, which it is named by. */
public final class DrumTalkTermsTest extends Checks {
    private static final int DAY = 24;

    public static void main(String[] args) {
        test(DrumTalkTermsTest::divisionIsCutTowardsZero);
        test(DrumTalkTermsTest::timeIsToldFromZero);
        test(DrumTalkTermsTest::aDayHasTwentyFourBeats);
        test(DrumTalkTermsTest::thereAreAtMostEightVillages);
        test(DrumTalkTermsTest::placesAreZeroToThirty);
        test(DrumTalkTermsTest::drumsAreOneToNine);
        test(DrumTalkTermsTest::awakeFromAnyBeatForAnyBeats);
        test(DrumTalkTermsTest::awakeAcrossTheEndOfTheDay);
        test(DrumTalkTermsTest::distanceIsWithoutSigns);
        test(DrumTalkTermsTest::earshotIsAtMostThreeTimesTheDrum);
        test(DrumTalkTermsTest::earshotGoesByTheDrumOfTheOtherOne);
        test(DrumTalkTermsTest::thereAreAtMostTwelvePhrases);
        test(DrumTalkTermsTest::phrasesHaveTwoToEightTones);
        test(DrumTalkTermsTest::tonesAreOneOrTwo);
        test(DrumTalkTermsTest::theFirstToneIsHighest);
        test(DrumTalkTermsTest::queuesHoldAtMostFive);
        test(DrumTalkTermsTest::aVillageDrumsAsManyBeatsAsTones);
        test(DrumTalkTermsTest::soundsBeginInEachOtherVillage);
        test(DrumTalkTermsTest::earshotThenAndTheDrumThen);
        test(DrumTalkTermsTest::aSoundLastsForAsManyBeats);
        test(DrumTalkTermsTest::anEchoComesFourBeatsLater);
        test(DrumTalkTermsTest::anEchoNeedsACliffThen);
        test(DrumTalkTermsTest::oneThatDoesNotDrumBegins);
        test(DrumTalkTermsTest::oneThatIsAwakeBegins);
        test(DrumTalkTermsTest::oneThatHasAQueueBegins);
        test(DrumTalkTermsTest::theFirstPhraseLeavesTheQueue);
        test(DrumTalkTermsTest::disturbedIfNotAwake);
        test(DrumTalkTermsTest::disturbedIfItDrums);
        test(DrumTalkTermsTest::disturbedByTwoOrMoreSounds);
        test(DrumTalkTermsTest::soundsLastWhenBegunAndNotOver);
        test(DrumTalkTermsTest::drownedFromNowOn);
        test(DrumTalkTermsTest::soundsEndInTheirLastBeat);
        test(DrumTalkTermsTest::soundsEndInTheOrderOfBirth);
        test(DrumTalkTermsTest::heardIfNotKnown);
        test(DrumTalkTermsTest::aFullQueueStaysFull);
        test(DrumTalkTermsTest::drummingEndsInItsLastBeat);
        test(DrumTalkTermsTest::theBeatIsOneGreater);
        end();
    }

    /** Villages 0, 1 as far from each other as told; phrases 0 of 2 beats and 1 of 8. */
    private static DrumTalk two(int distance, int drum) {
        DrumTalk land = new DrumTalk();
        land.found(0, 0, drum);
        land.found(distance, 0, 1);
        land.phrase(11);
        land.phrase(12121212);
        return land;
    }

    /** Village 0, and 1 to 4 around it, 2 beats of sound off; these do not hear each other. Phrases as in two(). */
    private static DrumTalk star() {
        DrumTalk land = new DrumTalk();
        land.found(15, 15, 1);
        land.found(12, 15, 1);
        land.found(18, 15, 1);
        land.found(15, 12, 1);
        land.found(15, 18, 1);
        land.phrase(11);
        land.phrase(12121212);
        return land;
    }

    private static void letGo(DrumTalk land, int beats) {
        for (int gone = 0; gone < beats; gone++) {
            land.pass(1);
        }
    }

    private static void divisionIsCutTowardsZero() {
        part("/ is cut towards 0: a sound begins in t + distance / 3 + 1");
        for (int threes = 0; threes <= 9; threes++) {
            for (int rest = 0; rest < 3; rest++) {
                int distance = threes * 3 + rest;
                if (distance >= 1 && distance <= 27) {
                    DrumTalk land = two(distance, 9);
                    land.tell(0, 0);
                    letGo(land, threes);
                    due("sounds(1) ahead of it at " + distance, land.sounds(1), 0);
                    land.pass(1);
                    due("sounds(1) at " + distance, land.sounds(1), 1);
                }
            }
        }
    }

    private static void timeIsToldFromZero() {
        part("Time is told in beats, from 0");
        DrumTalk land = two(1, 1);
        due("count(0)", land.count(0), 0);
        land.tell(0, 0);
        due("knows(0, 0)", land.knows(0, 0), 0);
        land.pass(1);
        due("count(0) behind one beat", land.count(0), 1);
        due("count(5), begun in the beat 0", land.count(5), 1);
    }

    private static void aDayHasTwentyFourBeats() {
        part("a day has 24");
        DrumTalk land = two(1, 1);
        land.setAwake(0, 0, 1);
        land.setAwake(1, 23, 1);
        for (int beat = 0; beat <= 4 * DAY; beat++) {
            boolean first = beat == 0 || beat == 24 || beat == 48 || beat == 72 || beat == 96;
            boolean last = beat == 23 || beat == 47 || beat == 71 || beat == 95;
            due("village(0, 4) in " + beat, land.village(0, 4), first ? 1 : 0);
            due("village(1, 4) in " + beat, land.village(1, 4), last ? 1 : 0);
            land.pass(1);
        }
    }

    private static void thereAreAtMostEightVillages() {
        part("There are at most 8, numbered from 0 in the order of their founding");
        DrumTalk land = new DrumTalk();
        for (int number = 0; number < 8; number++) {
            outside(land, "village(" + number + ", 0) ahead of its founding", it -> it.village(it.count(1), 0));
            due("found(" + (30 - number) + ", 7, 1)", land.found(30 - number, 7, 1), number);
            due("village(" + number + ", 0)", land.village(number, 0), 30 - number);
            due("count(1)", land.count(1), number + 1);
        }
        illegalState(land, "found(0, 0, 1) as the ninth", it -> it.found(0, 0, 1));
        outside(land, "village(8, 0)", it -> it.village(8, 0));
    }

    private static void placesAreZeroToThirty() {
        part("each is at a place x, y, 0 to 30 each");
        for (int x : new int[] {0, 30}) {
            for (int y : new int[] {0, 30}) {
                DrumTalk land = new DrumTalk();
                due("found(" + x + ", " + y + ", 1)", land.found(x, y, 1), 0);
                due("village(0, 0)", land.village(0, 0), x);
                due("village(0, 1)", land.village(0, 1), y);
            }
        }
        DrumTalk land = new DrumTalk();
        for (int wrong : new int[] {-1, 31, Integer.MIN_VALUE, Integer.MAX_VALUE}) {
            for (int right : new int[] {0, 15, 30}) {
                illegalArgument(land, "found(" + wrong + ", " + right + ", 1)", it -> it.found(wrong, right, 1));
                illegalArgument(land, "found(" + right + ", " + wrong + ", 1)", it -> it.found(right, wrong, 1));
            }
        }
    }

    private static void drumsAreOneToNine() {
        part("has a drum of a size, 1 to 9");
        for (int drum = 1; drum <= 9; drum++) {
            DrumTalk land = new DrumTalk();
            due("found(0, 0, " + drum + ")", land.found(0, 0, drum), 0);
            due("village(0, 2)", land.village(0, 2), drum);
        }
        DrumTalk land = two(1, 1);
        for (int wrong : new int[] {0, 10, -1, Integer.MIN_VALUE, Integer.MAX_VALUE}) {
            illegalArgument(land, "found(5, 5, " + wrong + ")", it -> it.found(5, 5, wrong));
            illegalArgument(land, "setDrum(0, " + wrong + ")", it -> it.setDrum(0, wrong));
        }
    }

    private static void awakeFromAnyBeatForAnyBeats() {
        part("is awake from a beat of the day on, 0 to 23, for 1 to 24 beats of each day");
        for (int from = 0; from < DAY; from++) {
            for (int beats = 1; beats <= DAY; beats++) {
                boolean[] awake = new boolean[DAY];
                for (int ahead = 0; ahead < beats; ahead++) {
                    awake[from + ahead < DAY ? from + ahead : from + ahead - DAY] = true;
                }
                DrumTalk land = two(1, 1);
                land.setAwake(0, from, beats);
                for (int beat = 0; beat < 2 * DAY; beat++) {
                    due("village(0, 4) in " + beat + ", awake from " + from + " for " + beats, land.village(0, 4),
                        awake[beat % DAY] ? 1 : 0);
                    land.pass(1);
                }
            }
        }
    }

    private static void awakeAcrossTheEndOfTheDay() {
        part("awake from 23 on for 2: the day wraps around from beat 23 to beat 0");
        DrumTalk land = two(1, 1);
        land.setAwake(0, 23, 2);
        due("village(0, 4) in 0, the second beat of a day ahead", land.village(0, 4), 1);
        land.pass(1);
        land.tell(0, 0);
        due("village(0, 4) in 1", land.village(0, 4), 0);
        land.pass(21);
        due("village(0, 4) in 22", land.village(0, 4), 0);
        land.pass(1);
        due("village(0, 4) in 23", land.village(0, 4), 1);
        due("count(5) ahead of 23", land.count(5), 0);
        land.pass(1);
        due("count(5) in 23", land.count(5), 1);
        due("village(0, 4) in 24", land.village(0, 4), 1);
        land.pass(1);
        due("village(0, 4) in 25", land.village(0, 4), 0);
        // Village 1 hears what lasts from 23 to 24 alone.
        DrumTalk night = two(1, 1);
        night.setAwake(1, 23, 2);
        night.pass(22);
        night.tell(0, 0);
        due("pass(3)", night.pass(3), 1);
        due("knows(1, 0)", night.knows(1, 0), 24);
    }

    private static void distanceIsWithoutSigns() {
        part("The distance of two villages is the difference of x and that of y, without their signs, added");
        for (int aside = 0; aside <= 10; aside++) {
            for (int signs = 0; signs < 4; signs++) {
                int right = (signs & 1) == 0 ? 1 : -1;
                int up = (signs & 2) == 0 ? 1 : -1;
                DrumTalk land = new DrumTalk();
                land.found(15, 15, 3);
                land.found(15 + right * aside, 15 + up * (10 - aside), 3);
                due("way(0, 1) at 10, " + aside + " aside, signs " + signs, land.way(0, 1), -1);
                if (aside < 10) {
                    land.found(15 + right * aside, 15 + up * (9 - aside), 3);
                    due("way(0, 2) at 9, " + aside + " aside, signs " + signs, land.way(0, 2), 1);
                    due("way(2, 0) at 9, " + aside + " aside, signs " + signs, land.way(2, 0), 1);
                }
            }
        }
        DrumTalk corners = new DrumTalk();
        corners.found(0, 0, 9);
        corners.found(30, 30, 9);
        due("way(0, 1) at 60", corners.way(0, 1), -1);
    }

    private static void earshotIsAtMostThreeTimesTheDrum() {
        part("in earshot, if the distance is at most 3 * the size of the drum");
        for (int drum = 1; drum <= 9; drum++) {
            DrumTalk near = two(3 * drum, drum);
            due("way(0, 1) at " + 3 * drum, near.way(0, 1), 1);
            near.tell(0, 0);
            near.pass(1);
            due("count(4) at " + 3 * drum, near.count(4), 1);
            DrumTalk far = two(3 * drum + 1, drum);
            due("way(0, 1) at " + (3 * drum + 1), far.way(0, 1), -1);
            far.tell(0, 0);
            far.pass(1);
            due("count(4) at " + (3 * drum + 1), far.count(4), 0);
        }
    }

    private static void earshotGoesByTheDrumOfTheOtherOne() {
        part("by the drum of that other one");
        DrumTalk land = two(9, 3);
        due("way(0, 1)", land.way(0, 1), 1);
        due("way(1, 0)", land.way(1, 0), -1);
        land.tell(1, 0);
        land.pass(1);
        due("count(4) of the small drum", land.count(4), 0);
        land.tell(0, 0);
        land.pass(1);
        due("count(4) of the large drum", land.count(4), 1);
    }

    private static void thereAreAtMostTwelvePhrases() {
        part("There are at most 12, numbered likewise");
        DrumTalk land = new DrumTalk();
        int[] tones = {22, 21, 12, 11, 222, 221, 212, 211, 122, 121, 112, 111};
        land.found(0, 0, 1);
        for (int number = 0; number < 12; number++) {
            outside(land, "knows() ahead of phrase " + number, it -> it.knows(0, it.count(2)));
            due("phrase(" + tones[number] + ")", land.phrase(tones[number]), number);
            due("count(2)", land.count(2), number + 1);
        }
        due("knows(0, 11)", land.knows(0, 11), -1);
        illegalState(land, "phrase(1111) as the thirteenth", it -> it.phrase(1111));
        outside(land, "knows(0, 12)", it -> it.knows(0, 12));
    }

    private static void phrasesHaveTwoToEightTones() {
        part("each is a row of 2 to 8 tones");
        DrumTalk land = new DrumTalk();
        int[] ones = {11, 111, 1111, 11111, 111111, 1111111, 11111111};
        int[] twos = {22, 222, 2222, 22222, 222222, 2222222, 22222222};
        for (int wrong : new int[] {0, 1, 2, 111111111, 222222222, 1111111111, 2111111111, 1211111111}) {
            illegalArgument(land, "phrase(" + wrong + ")", it -> it.phrase(wrong));
        }
        for (int index = 0; index < 7; index++) {
            due("phrase(" + ones[index] + ")", land.phrase(ones[index]), index);
        }
        DrumTalk other = new DrumTalk();
        for (int index = 0; index < 7; index++) {
            due("phrase(" + twos[index] + ")", other.phrase(twos[index]), index);
        }
    }

    private static void tonesAreOneOrTwo() {
        part("tones, 1 (low) or 2 (high)");
        DrumTalk land = new DrumTalk();
        int ones = 1;
        for (int count = 2; count <= 8; count++) {
            ones = ones * 10 + 1;
            int place = 1;
            for (int tone = 0; tone < count; tone++) {
                for (int digit : new int[] {0, 3, 4, 5, 6, 7, 8, 9}) {
                    int wrong = ones + (digit - 1) * place;
                    if (digit > 0 || tone < count - 1) {
                        illegalArgument(land, "phrase(" + wrong + ")", it -> it.phrase(wrong));
                    }
                }
                place *= 10;
            }
        }
        for (int wrong : new int[] {-11, -12, -22222222, -1, Integer.MIN_VALUE, Integer.MAX_VALUE}) {
            illegalArgument(land, "phrase(" + wrong + ")", it -> it.phrase(wrong));
        }
    }

    private static void theFirstToneIsHighest() {
        part("told as a decimal number, the first tone highest");
        DrumTalk land = new DrumTalk();
        due("phrase(12)", land.phrase(12), 0);
        due("phrase(21)", land.phrase(21), 1);
        illegalState(land, "phrase(12) again", it -> it.phrase(12));
        illegalState(land, "phrase(21) again", it -> it.phrase(21));
    }

    private static void queuesHoldAtMostFive() {
        part("Each village has a queue of at most 5 phrases");
        DrumTalk land = two(1, 1);
        for (int told = 1; told <= 5; told++) {
            due("tell(0, 1)", land.tell(0, 1), told);
            due("village(0, 7)", land.village(0, 7), told);
        }
        illegalState(land, "tell(0, 1) as the sixth", it -> it.tell(0, 1));
        due("tell(1, 0) to the other one", land.tell(1, 0), 1);
        land.pass(1);
        due("tell(0, 0) when one has left", land.tell(0, 0), 5);
        illegalState(land, "tell(0, 0) as the sixth", it -> it.tell(0, 0));
    }

    private static void aVillageDrumsAsManyBeatsAsTones() {
        part("it drums as many beats as this has tones, from t on");
        int tones = 1;
        for (int beats = 2; beats <= 8; beats++) {
            tones = tones * 10 + 1;
            DrumTalk land = new DrumTalk();
            land.found(0, 0, 1);
            land.phrase(tones);
            land.tell(0, 0);
            due("village(0, 6) ahead of " + tones, land.village(0, 6), 0);
            for (int left = beats - 1; left >= 1; left--) {
                land.pass(1);
                due("village(0, 5) with " + tones, land.village(0, 5), 0);
                due("village(0, 6) with " + tones, land.village(0, 6), left);
                due("count(3) with " + tones, land.count(3), 1);
            }
            land.pass(1);
            due("village(0, 5) behind " + tones, land.village(0, 5), -1);
            due("village(0, 6) behind " + tones, land.village(0, 6), 0);
            due("count(3) behind " + tones, land.count(3), 0);
        }
    }

    private static void soundsBeginInEachOtherVillage() {
        part("In each other village in earshot then a sound begins");
        DrumTalk alone = new DrumTalk();
        alone.found(0, 0, 9);
        alone.setCliff(0, true);
        alone.phrase(11);
        alone.tell(0, 0);
        alone.pass(1);
        due("count(5) alone", alone.count(5), 1);
        due("count(4) alone", alone.count(4), 0);
        DrumTalk all = new DrumTalk();
        for (int number = 0; number < 8; number++) {
            all.found(number, 0, 3);
        }
        all.phrase(11);
        all.tell(4, 0);
        all.pass(1);
        due("count(4) with 7 others", all.count(4), 7);
        all.pass(1);
        due("sounds(4) in the one that drums", all.sounds(4), 0);
        for (int number : new int[] {2, 3, 5, 6}) {
            due("sounds(" + number + ")", all.sounds(number), 1);
        }
    }

    private static void earshotThenAndTheDrumThen() {
        part("in earshot then (and by the size of the drum then)");
        DrumTalk ahead = two(4, 1);
        ahead.tell(0, 0);
        ahead.setDrum(0, 2);
        ahead.pass(1);
        due("count(4) when the drum grew ahead of it", ahead.count(4), 1);
        DrumTalk behind = two(4, 1);
        behind.tell(0, 0);
        behind.pass(1);
        behind.setDrum(0, 2);
        due("pass(20) when the drum grew behind it", behind.pass(20), 0);
        due("village(1, 9)", behind.village(1, 9), 0);
        DrumTalk smaller = two(4, 2);
        smaller.tell(0, 0);
        smaller.pass(1);
        smaller.setDrum(0, 1);
        due("pass(20) when the drum shrank behind it", smaller.pass(20), 1);
        DrumTalk founded = two(27, 9);
        founded.tell(0, 0);
        founded.pass(1);
        founded.found(0, 1, 1);
        due("pass(20) with a village founded behind it", founded.pass(20), 1);
        due("knows(2, 0)", founded.knows(2, 0), -1);
    }

    private static void aSoundLastsForAsManyBeats() {
        part("a sound begins, and lasts for as many beats");
        int tones = 1;
        for (int beats = 2; beats <= 8; beats++) {
            tones = tones * 10 + 2;
            DrumTalk land = new DrumTalk();
            land.found(0, 0, 1);
            land.found(0, 3, 1);
            land.phrase(tones);
            land.tell(0, 0);
            for (int beat = 0; beat < beats + 5; beat++) {
                boolean lasts = beat >= 2 && beat < 2 + beats;
                due("sounds(1) in " + beat + " with " + tones, land.sounds(1), lasts ? 1 : 0);
                due("count(4) in " + beat + " with " + tones, land.count(4), beat == 0 ? 0 : soundsLeft(beat, beats));
                land.pass(1);
            }
        }
    }

    /** The sound to village 1 is over in 2 + beats; village 1 drums it then, and that is over 2 + beats later. */
    private static int soundsLeft(int beat, int beats) {
        return beat < 2 + beats || beat > 2 + beats && beat < 2 + beats + 2 + beats ? 1 : 0;
    }

    private static void anEchoComesFourBeatsLater() {
        part("if the village that drums has a cliff, a second one (the echo) 4 beats later");
        DrumTalk land = two(3, 1);
        land.setCliff(0, true);
        land.setAwake(1, 23, 1);
        land.tell(0, 0);
        // The sound lasts from 2 to 3, its echo from 6 to 7.
        int[] lasting = {0, 0, 1, 1, 0, 0, 1, 1, 0};
        int[] toCome = {0, 2, 2, 2, 1, 1, 1, 1, 0};
        for (int beat = 0; beat < lasting.length; beat++) {
            due("sounds(1) in " + beat, land.sounds(1), lasting[beat]);
            due("count(4) in " + beat, land.count(4), toCome[beat]);
            land.pass(1);
        }
        // A phrase of 4 beats ends ahead of its echo, one of 5 meets it.
        for (int tones : new int[] {1111, 11111}) {
            DrumTalk met = new DrumTalk();
            met.found(0, 0, 1);
            met.found(1, 0, 1);
            met.phrase(tones);
            met.setCliff(0, true);
            met.tell(0, 0);
            due("pass(30) of " + tones + " with its echo", met.pass(30), tones == 1111 ? 1 : 0);
        }
    }

    private static void anEchoNeedsACliffThen() {
        part("an echo, if the village that drums has a cliff");
        DrumTalk none = two(3, 1);
        none.tell(0, 0);
        none.pass(1);
        none.setCliff(0, true);
        due("count(4) without a cliff then", none.count(4), 1);
        DrumTalk hearer = two(3, 1);
        hearer.setCliff(1, true);
        hearer.tell(0, 0);
        hearer.pass(1);
        due("count(4) with a cliff where it is heard", hearer.count(4), 1);
        DrumTalk gone = two(3, 1);
        gone.setCliff(0, true);
        gone.tell(0, 0);
        gone.pass(1);
        gone.setCliff(0, false);
        gone.pass(1);
        due("count(4) with a cliff that went behind it", gone.count(4), 2);
    }

    private static void oneThatDoesNotDrumBegins() {
        part("1: one that does not drum begins");
        DrumTalk land = two(5, 1);
        land.tell(0, 0);
        land.tell(0, 1);
        land.pass(2);
        due("count(5) in the last beat of the first", land.count(5), 1);
        due("village(0, 7)", land.village(0, 7), 1);
        land.pass(1);
        due("count(5) one beat later", land.count(5), 2);
        due("village(0, 5)", land.village(0, 5), 1);
        due("village(0, 7) then", land.village(0, 7), 0);
        land.tell(0, 0);
        land.pass(7);
        due("count(5) till the second ends", land.count(5), 2);
        land.pass(1);
        due("count(5) with the third", land.count(5), 3);
    }

    private static void oneThatIsAwakeBegins() {
        part("1: one that is awake begins");
        for (int told = 0; told <= 30; told++) {
            DrumTalk land = two(5, 1);
            land.setAwake(0, 5, 3);
            letGo(land, told);
            land.tell(0, 0);
            int wait = told < 5 ? 5 - told : told <= 7 ? 0 : told < 29 ? 29 - told : 0;
            letGo(land, wait);
            due("count(5) ahead, told in " + told, land.count(5), 0);
            land.pass(1);
            due("count(5), told in " + told, land.count(5), 1);
        }
    }

    private static void oneThatHasAQueueBegins() {
        part("1: one that has a queue begins");
        DrumTalk land = two(5, 1);
        land.pass(10);
        due("count(5) with an empty queue", land.count(5), 0);
        due("village(0, 5)", land.village(0, 5), -1);
        land.tell(0, 0);
        land.pass(2);
        land.pass(20);
        due("count(5) when the queue is empty again", land.count(5), 1);
    }

    private static void theFirstPhraseLeavesTheQueue() {
        part("1: it drums the first phrase of it, which leaves the queue");
        DrumTalk land = two(5, 1);
        land.phrase(22);
        land.phrase(21);
        int[] phrases = {3, 0, 2, 0, 3};
        for (int phrase : phrases) {
            land.tell(0, phrase);
        }
        for (int begun = 0; begun < 5; begun++) {
            due("queue(0, 0)", land.queue(0, 0), phrases[begun]);
            land.pass(1);
            due("village(0, 5)", land.village(0, 5), phrases[begun]);
            due("village(0, 7)", land.village(0, 7), 4 - begun);
            for (int index = 0; index < 4 - begun; index++) {
                due("queue(0, " + index + ")", land.queue(0, index), phrases[begun + 1 + index]);
            }
            land.pass(1);
        }
    }

    private static void disturbedIfNotAwake() {
        part("2: a village is disturbed, if it is not awake");
        // The sound lasts from 2 to 3: awake in both, in the first alone, in the last alone, in none.
        int[][] awake = {{2, 2}, {1, 2}, {3, 2}, {4, 22}, {0, 24}, {3, 23}};
        int[] heard = {1, 0, 0, 0, 1, 0};
        for (int index = 0; index < awake.length; index++) {
            DrumTalk land = two(3, 1);
            land.setAwake(1, awake[index][0], awake[index][1]);
            land.tell(0, 0);
            String told = ", awake from " + awake[index][0] + " for " + awake[index][1];
            due("pass(4)" + told, land.pass(4), heard[index]);
            due("village(1, 9)" + told, land.village(1, 9), 1 - heard[index]);
        }
    }

    private static void disturbedIfItDrums() {
        part("2: a village is disturbed, if it drums");
        // The sound lasts from 5 to 6. Village 1 drums 2 beats from the one on in which it is told.
        for (int told = 2; told <= 7; told++) {
            DrumTalk land = two(3, 1);
            land.phrase(22);
            land.setAwake(0, 3, 2);
            land.tell(0, 0);
            letGo(land, told);
            land.tell(1, 2);
            letGo(land, 8 - told);
            boolean heard = told + 1 < 5 || told > 6;
            due("knows(1, 0) when it drums from " + told, land.knows(1, 0), heard ? 6 : -1);
            due("village(1, 9) when it drums from " + told, land.village(1, 9), heard ? 0 : 1);
        }
    }

    private static void disturbedByTwoOrMoreSounds() {
        part("2: a village is disturbed, if two or more sounds last in it");
        for (int drummers = 1; drummers <= 4; drummers++) {
            DrumTalk land = star();
            for (int number = 1; number <= drummers; number++) {
                land.tell(number, 0);
            }
            land.pass(2);
            due("sounds(0) by " + drummers, land.sounds(0), drummers);
            due("pass(2) by " + drummers, land.pass(2), drummers == 1 ? 1 : 0);
            due("knows(0, 0) by " + drummers, land.knows(0, 0), drummers == 1 ? 3 : -1);
            due("village(0, 9) by " + drummers, land.village(0, 9), drummers == 1 ? 0 : drummers);
        }
    }

    private static void soundsLastWhenBegunAndNotOver() {
        part("2: two sounds last (have begun, and are not over)");
        // Village 0 knows phrase 0, so it does not drum it on. Sounds of phrase 0 last from 2 to 3, of 2 from 2 + apart on.
        for (int apart = 0; apart <= 3; apart++) {
            DrumTalk land = star();
            land.phrase(22);
            land.setAwake(3, 23, 1);
            land.setAwake(4, 23, 1);
            land.tell(0, 0);
            land.tell(1, 0);
            letGo(land, apart);
            land.tell(2, 2);
            letGo(land, 4);
            due("knows(0, 2) when sounds are " + apart + " apart", land.knows(0, 2), apart >= 2 ? 3 + apart : -1);
            due("village(0, 9) when sounds are " + apart + " apart", land.village(0, 9), apart >= 2 ? 0 : 2);
        }
    }

    private static void drownedFromNowOn() {
        part("2: each sound that lasts in a disturbed village is drowned from now on");
        DrumTalk first = two(3, 1);
        first.setAwake(1, 3, 22);
        first.tell(0, 1);
        // The sound lasts from 2 to 9; village 1 sleeps in 2, and is awake ever after.
        due("pass(10)", first.pass(10), 0);
        due("village(1, 9)", first.village(1, 9), 1);
        DrumTalk ahead = two(3, 1);
        ahead.setAwake(1, 2, 20);
        ahead.tell(0, 1);
        due("pass(10) when it sleeps ahead of the sound", ahead.pass(10), 1);
        due("village(1, 9) when it sleeps ahead of the sound", ahead.village(1, 9), 0);
        DrumTalk under = star();
        // The drowned sound of phrase 1 lasts from 2 to 9, and drowns that of phrase 0, from 9 to 10.
        under.setAwake(0, 3, 20);
        under.tell(1, 1);
        letGo(under, 7);
        under.tell(2, 0);
        due("pass(4) under a drowned sound", under.pass(4), 0);
        due("village(0, 9) under a drowned sound", under.village(0, 9), 2);
    }

    private static void soundsEndInTheirLastBeat() {
        part("3: sounds for which this is the last beat end");
        DrumTalk land = two(3, 1);
        land.tell(0, 0);
        due("pass(3)", land.pass(3), 0);
        due("knows(1, 0) ahead of its last beat", land.knows(1, 0), -1);
        due("count(4) ahead of its last beat", land.count(4), 1);
        due("pass(1)", land.pass(1), 1);
        due("knows(1, 0)", land.knows(1, 0), 3);
        due("count(4)", land.count(4), 0);
        due("queue(1, 0)", land.queue(1, 0), 0);
        // Drowned ones are told as they end.
        DrumTalk asleep = two(3, 1);
        asleep.setAwake(1, 23, 1);
        asleep.tell(0, 0);
        asleep.pass(3);
        due("village(1, 9) ahead of its last beat", asleep.village(1, 9), 0);
        due("count(6) ahead of its last beat", asleep.count(6), 0);
        asleep.pass(1);
        due("village(1, 9)", asleep.village(1, 9), 1);
        due("count(6)", asleep.count(6), 1);
    }

    private static void soundsEndInTheOrderOfBirth() {
        part("3: in the order in which they came to be; two that end together drowned each other");
        // Village 2 drums 6 beats behind village 1; both sounds end in 9. A third one, of village 3, ends in 12.
        DrumTalk land = star();
        land.phrase(22);
        land.tell(1, 1);
        letGo(land, 6);
        land.tell(2, 0);
        letGo(land, 3);
        land.tell(3, 2);
        due("count(4) in 9", land.count(4), 2);
        due("pass(1), when both end", land.pass(1), 0);
        due("village(0, 9)", land.village(0, 9), 2);
        due("pass(3)", land.pass(3), 1);
        due("knows(0, 2)", land.knows(0, 2), 12);
    }

    private static void heardIfNotKnown() {
        part("3: heard: if the village does not know its phrase, it knows it from now on, and puts it into its queue");
        DrumTalk unknown = two(3, 1);
        unknown.tell(0, 0);
        due("pass(4)", unknown.pass(4), 1);
        due("knows(1, 0)", unknown.knows(1, 0), 3);
        due("village(1, 7)", unknown.village(1, 7), 1);
        unknown.pass(1);
        due("village(1, 5) in the next beat", unknown.village(1, 5), 0);
        DrumTalk known = two(3, 1);
        known.tell(1, 0);
        known.pass(10);
        known.tell(0, 0);
        due("pass(20) when it knows it", known.pass(20), 0);
        due("knows(1, 0) when it knows it", known.knows(1, 0), 0);
        due("village(1, 7) when it knows it", known.village(1, 7), 0);
        due("village(1, 9) when it knows it", known.village(1, 9), 0);
    }

    /** A village that is awake and has a queue drums, and hears nothing: a full one never has to leave a phrase out. */
    private static void aFullQueueStaysFull() {
        part("3: at the end of its queue, if there are fewer than 5");
        for (int queued = 0; queued <= 5; queued++) {
            DrumTalk land = two(3, 1);
            land.setAwake(1, 22, 2);
            for (int told = 0; told < queued; told++) {
                land.tell(1, 1);
            }
            land.tell(0, 0);
            due("pass(10) with " + queued + " in the queue", land.pass(10), 0);
            due("village(1, 7)", land.village(1, 7), queued);
            land.setAwake(1, 0, 24);
            land.tell(0, 0);
            due("pass(4) with " + queued + " in the queue, awake", land.pass(4), queued == 0 ? 1 : 0);
            due("village(1, 7), awake", land.village(1, 7), queued == 0 ? 1 : queued - 1);
        }
    }

    private static void drummingEndsInItsLastBeat() {
        part("4: a village for which this is the last beat of its drumming drums no more");
        DrumTalk land = two(5, 1);
        land.setAwake(0, 0, 1);
        land.tell(0, 1);
        land.pass(7);
        due("village(0, 5) ahead of the last beat", land.village(0, 5), 1);
        due("village(0, 6) ahead of the last beat", land.village(0, 6), 1);
        due("village(0, 4), asleep", land.village(0, 4), 0);
        land.pass(1);
        due("village(0, 5)", land.village(0, 5), -1);
        due("village(0, 6)", land.village(0, 6), 0);
    }

    private static void theBeatIsOneGreater() {
        part("4: the beat is 1 greater");
        DrumTalk quiet = new DrumTalk();
        DrumTalk busy = two(1, 1);
        for (int told = 0; told < 5; told++) {
            busy.tell(0, 1);
        }
        for (int beat = 0; beat < 60; beat++) {
            due("count(0) where nothing sounds", quiet.count(0), beat);
            due("count(0) where villages drum", busy.count(0), beat);
            quiet.pass(1);
            busy.pass(1);
        }
        quiet.pass(200);
        busy.pass(200);
        due("count(0) where nothing sounds", quiet.count(0), 260);
        due("count(0) where villages drum", busy.count(0), 260);
    }
}
