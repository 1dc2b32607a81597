import java.util.Arrays;

/** Drum talkers: villages that send phrases on by drums. The document is ../shared/DOC.md. */
public final class DrumTalk {
    private static final int NONE = -1;

    private static final int MOST_VILLAGES = 8;
    private static final int LARGEST_PLACE = 30;
    private static final int SMALLEST_DRUM = 1;
    private static final int LARGEST_DRUM = 9;
    private static final int VILLAGE_FIGURES = 10;

    private static final int MOST_PHRASES = 12;
    private static final int FEWEST_TONES = 2;
    private static final int MOST_TONES = 8;
    private static final int MOST_QUEUED = 5;

    private static final int DAY = 24;
    private static final int EARSHOT_BY_DRUM = 3;
    private static final int DISTANCE_BY_BEAT = 3;
    private static final int ECHO_DELAY = 4;

    private static final int LAND_FIGURES = 8;
    private static final int MOST_PASSED = 200;
    private static final int REACHES_BEATS = 200;
    private static final int BEST_BEATS = 80;
    private static final int BEST_STARTS = 24;
    private static final int MOST_LARGER_BEATS = 100;
    private static final long DIGEST_START = 769;
    private static final long DIGEST_FACTOR = 31;

    // A sound is over at most 14 + tones beats after its drumming began (10 on its way, 4 for the echo),
    // and a drumming takes 2 beats or more: of one village no more than 8 drummings are under way.
    private static final int MOST_SOUNDS = (MOST_VILLAGES - 1) * 8 * 2;

    private final Land land = new Land();
    // Every look ahead goes on in this land, so that it makes no new objects.
    private final Land trial = new Land();

    public DrumTalk() {
    }

    // ---- villages and phrases

    public int found(int x, int y, int drum) throws IllegalArgumentException, IllegalStateException {
        if (!isPlace(x) || !isPlace(y) || !isDrum(drum)) {
            throw new IllegalArgumentException("a place is 0 to 30, a drum 1 to 9");
        }
        if (land.villageCount >= MOST_VILLAGES || land.hasVillageAt(x, y)) {
            throw new IllegalStateException("there are 8 villages, or one is at this place");
        }
        return land.addVillage(x, y, drum);
    }

    public int setDrum(int village, int drum) throws IndexOutOfBoundsException, IllegalArgumentException {
        Village changed = villageOf(village);
        if (!isDrum(drum)) {
            throw new IllegalArgumentException("a drum is 1 to 9");
        }
        int before = changed.drum;
        changed.drum = drum;
        return before;
    }

    public boolean setCliff(int village, boolean cliff) throws IndexOutOfBoundsException {
        Village changed = villageOf(village);
        boolean before = changed.cliff;
        changed.cliff = cliff;
        return before;
    }

    public int setAwake(int village, int from, int beats) throws IndexOutOfBoundsException, IllegalArgumentException {
        Village changed = villageOf(village);
        if (from < 0 || from >= DAY || beats < 1 || beats > DAY) {
            throw new IllegalArgumentException("a village is awake from 0 to 23 on, for 1 to 24 beats");
        }
        int before = changed.awakeBeats;
        changed.awakeFrom = from;
        changed.awakeBeats = beats;
        return before;
    }

    public int phrase(int tones) throws IllegalArgumentException, IllegalStateException {
        int toneCount = countTones(tones);
        if (toneCount < FEWEST_TONES || toneCount > MOST_TONES) {
            throw new IllegalArgumentException("a phrase has 2 to 8 tones, 1 or 2 each");
        }
        if (land.phraseCount >= MOST_PHRASES || land.hasPhrase(tones)) {
            throw new IllegalStateException("there are 12 phrases, or this is one already");
        }
        return land.addPhrase(tones, toneCount);
    }

    public int tell(int village, int phrase) throws IndexOutOfBoundsException, IllegalStateException {
        Village told = villageOf(village);
        checkPhrase(phrase);
        if (told.queued >= MOST_QUEUED) {
            throw new IllegalStateException("5 phrases are in the queue");
        }
        told.takeIn(phrase, land.beat);
        return told.queued;
    }

    // ---- what is there

    public int village(int village, int what) throws IndexOutOfBoundsException {
        Village asked = villageOf(village);
        if (what < 0 || what >= VILLAGE_FIGURES) {
            throw new IndexOutOfBoundsException("what is 0 to 9");
        }
        return asked.figure(what, land.beat);
    }

    public int queue(int village, int index) throws IndexOutOfBoundsException {
        Village asked = villageOf(village);
        if (index < 0 || index >= asked.queued) {
            throw new IndexOutOfBoundsException("no such place in the queue");
        }
        return asked.queue[index];
    }

    public int knows(int village, int phrase) throws IndexOutOfBoundsException {
        Village asked = villageOf(village);
        checkPhrase(phrase);
        return asked.knownSince[phrase];
    }

    public int sounds(int village) throws IndexOutOfBoundsException {
        return villageOf(village).inTheAir.lasting(land.beat);
    }

    public int count(int what) throws IndexOutOfBoundsException {
        if (what < 0 || what >= LAND_FIGURES) {
            throw new IndexOutOfBoundsException("what is 0 to 7");
        }
        return land.figure(what);
    }

    public int way(int from, int to) throws IndexOutOfBoundsException {
        checkVillage(from);
        checkVillage(to);
        int reached = 1 << from;
        for (int drummings = 0; drummings < MOST_VILLAGES; drummings++) {
            if ((reached >> to & 1) == 1) {
                return drummings;
            }
            reached |= land.hearersOf(reached);
        }
        return NONE;
    }

    // ---- beats

    public int pass(int beats) throws IllegalArgumentException {
        if (beats < 1 || beats > MOST_PASSED) {
            throw new IllegalArgumentException("beats are 1 to 200");
        }
        return land.letGo(beats);
    }

    // ---- looking ahead

    public int reaches(int village, int phrase) throws IndexOutOfBoundsException {
        checkVillage(village);
        checkPhrase(phrase);
        trial.copy(land);
        Village asked = trial.villages[village];
        for (int beats = 0; beats <= REACHES_BEATS; beats++) {
            if (asked.isKnown(phrase)) {
                return beats;
            }
            trial.letGo(1);
        }
        return NONE;
    }

    public int best(int village, int phrase) throws IndexOutOfBoundsException {
        checkVillage(village);
        checkPhrase(phrase);
        trial.copy(land);
        trial.letGo(BEST_BEATS);
        int most = trial.knowersOf(phrase);
        int bestStart = NONE;
        for (int start = 0; start < BEST_STARTS; start++) {
            int knowers = knowersIfTold(village, phrase, start);
            if (knowers > most) {
                most = knowers;
                bestStart = start;
            }
        }
        return bestStart;
    }

    public int larger(int beats) throws IllegalArgumentException {
        if (beats < 1 || beats > MOST_LARGER_BEATS) {
            throw new IllegalArgumentException("beats are 1 to 100");
        }
        trial.copy(land);
        trial.letGo(beats);
        int most = trial.knownPairs();
        int bestVillage = NONE;
        for (int number = 0; number < land.villageCount; number++) {
            if (land.villages[number].drum < LARGEST_DRUM) {
                int pairs = pairsIfLarger(number, beats);
                if (pairs > most) {
                    most = pairs;
                    bestVillage = number;
                }
            }
        }
        return bestVillage;
    }

    public double known() {
        int pairs = land.villageCount * land.phraseCount;
        if (pairs == 0) {
            return 0;
        }
        return (double) land.knownPairs() / pairs;
    }

    public long digest() {
        long sum = DIGEST_START;
        for (int what = 0; what < LAND_FIGURES; what++) {
            sum = sum * DIGEST_FACTOR + land.figure(what);
        }
        for (int number = 0; number < land.phraseCount; number++) {
            sum = sum * DIGEST_FACTOR + land.tones[number];
        }
        for (int number = 0; number < land.villageCount; number++) {
            sum = digestOn(sum, land.villages[number]);
        }
        return sum;
    }

    // ---- helpers of the face

    private static boolean isPlace(int coordinate) {
        return coordinate >= 0 && coordinate <= LARGEST_PLACE;
    }

    private static boolean isDrum(int drum) {
        return drum >= SMALLEST_DRUM && drum <= LARGEST_DRUM;
    }

    /** How many tones the number tells; 0 if a digit is no tone, or there are too many. */
    private static int countTones(int tones) {
        int rest = tones;
        for (int counted = 0; counted <= MOST_TONES; counted++) {
            if (rest == 0) {
                return counted;
            }
            int tone = rest % 10;
            if (tone != 1 && tone != 2) {
                return 0;
            }
            rest /= 10;
        }
        return 0;
    }

    private void checkVillage(int number) {
        if (number < 0 || number >= land.villageCount) {
            throw new IndexOutOfBoundsException("no such village");
        }
    }

    private void checkPhrase(int number) {
        if (number < 0 || number >= land.phraseCount) {
            throw new IndexOutOfBoundsException("no such phrase");
        }
    }

    private Village villageOf(int number) {
        checkVillage(number);
        return land.villages[number];
    }

    private int knowersIfTold(int village, int phrase, int start) {
        trial.copy(land);
        trial.letGo(start);
        Village told = trial.villages[village];
        if (told.queued < MOST_QUEUED) {
            told.takeIn(phrase, trial.beat);
        }
        trial.letGo(BEST_BEATS - start);
        return trial.knowersOf(phrase);
    }

    private int pairsIfLarger(int village, int beats) {
        trial.copy(land);
        trial.villages[village].drum++;
        trial.letGo(beats);
        return trial.knownPairs();
    }

    private long digestOn(long start, Village told) {
        long sum = start;
        for (int what = 0; what < VILLAGE_FIGURES; what++) {
            sum = sum * DIGEST_FACTOR + told.figure(what, land.beat);
        }
        sum = sum * DIGEST_FACTOR + told.inTheAir.lasting(land.beat);
        for (int index = 0; index < told.queued; index++) {
            sum = sum * DIGEST_FACTOR + told.queue[index];
        }
        for (int number = 0; number < land.phraseCount; number++) {
            sum = sum * DIGEST_FACTOR + told.knownSince[number];
        }
        return sum;
    }

    /** The villages, the phrases, and the beat. */
    private static final class Land {
        final Village[] villages = new Village[MOST_VILLAGES];
        int villageCount;
        final int[] tones = new int[MOST_PHRASES];
        final int[] toneCounts = new int[MOST_PHRASES];
        int phraseCount;
        int beat;
        int drummings;

        Land() {
            for (int number = 0; number < MOST_VILLAGES; number++) {
                villages[number] = new Village();
            }
        }

        void copy(Land other) {
            for (int number = 0; number < other.villageCount; number++) {
                villages[number].copy(other.villages[number]);
            }
            villageCount = other.villageCount;
            System.arraycopy(other.tones, 0, tones, 0, MOST_PHRASES);
            System.arraycopy(other.toneCounts, 0, toneCounts, 0, MOST_PHRASES);
            phraseCount = other.phraseCount;
            beat = other.beat;
            drummings = other.drummings;
        }

        boolean hasVillageAt(int x, int y) {
            for (int number = 0; number < villageCount; number++) {
                if (villages[number].x == x && villages[number].y == y) {
                    return true;
                }
            }
            return false;
        }

        int addVillage(int x, int y, int drum) {
            if (villageCount >= MOST_VILLAGES) {
                return NONE;
            }
            Village founded = villages[villageCount];
            founded.x = x;
            founded.y = y;
            founded.drum = drum;
            villageCount++;
            return villageCount - 1;
        }

        boolean hasPhrase(int asked) {
            for (int number = 0; number < phraseCount; number++) {
                if (tones[number] == asked) {
                    return true;
                }
            }
            return false;
        }

        int addPhrase(int added, int toneCount) {
            if (phraseCount >= MOST_PHRASES) {
                return NONE;
            }
            tones[phraseCount] = added;
            toneCounts[phraseCount] = toneCount;
            phraseCount++;
            return phraseCount - 1;
        }

        int figure(int what) {
            switch (what) {
                case 0:
                    return beat;
                case 1:
                    return villageCount;
                case 2:
                    return phraseCount;
                case 3:
                    return drummers();
                case 4:
                    return soundsInTheAir();
                case 5:
                    return drummings;
                case 6:
                    return soundsDrowned();
                default:
                    return knownPairs();
            }
        }

        int drummers() {
            int drummers = 0;
            for (int number = 0; number < villageCount; number++) {
                if (villages[number].isDrumming()) {
                    drummers++;
                }
            }
            return drummers;
        }

        int soundsInTheAir() {
            int inTheAir = 0;
            for (int number = 0; number < villageCount; number++) {
                inTheAir += villages[number].inTheAir.size;
            }
            return inTheAir;
        }

        int soundsDrowned() {
            int drowned = 0;
            for (int number = 0; number < villageCount; number++) {
                drowned += villages[number].drowned;
            }
            return drowned;
        }

        int knownPairs() {
            int pairs = 0;
            for (int number = 0; number < villageCount; number++) {
                pairs += villages[number].phrasesKnown();
            }
            return pairs;
        }

        int knowersOf(int phrase) {
            int knowers = 0;
            for (int number = 0; number < villageCount; number++) {
                if (villages[number].isKnown(phrase)) {
                    knowers++;
                }
            }
            return knowers;
        }

        /** The villages in earshot of one or more of these; both are bits by the villages' numbers. */
        int hearersOf(int drumming) {
            int hearers = 0;
            for (int from = 0; from < villageCount; from++) {
                if ((drumming >> from & 1) == 1) {
                    for (int to = 0; to < villageCount; to++) {
                        if (villages[from].isHeardAt(villages[from].distanceTo(villages[to]))) {
                            hearers |= 1 << to;
                        }
                    }
                }
            }
            return hearers;
        }

        /** Lets beats go by; returns how many times a village came to know a phrase in them. */
        int letGo(int beats) {
            int learned = 0;
            for (int gone = 0; gone < beats; gone++) {
                if (isQuiet()) {
                    // Until something is told, only the time changes now.
                    beat += beats - gone;
                    return learned;
                }
                learned += goBeat();
            }
            return learned;
        }

        boolean isQuiet() {
            for (int number = 0; number < villageCount; number++) {
                Village asked = villages[number];
                if (asked.isDrumming() || asked.queued > 0 || asked.inTheAir.size > 0) {
                    return false;
                }
            }
            return true;
        }

        int goBeat() {
            for (int number = 0; number < villageCount; number++) {
                if (villages[number].isReady(beat)) {
                    beginDrumming(number);
                }
            }
            for (int number = 0; number < villageCount; number++) {
                villages[number].drownIfDisturbed(beat);
            }
            int learned = 0;
            for (int number = 0; number < villageCount; number++) {
                // Sounds of different villages do not touch each other, so their order counts within one alone.
                learned += villages[number].endSounds(beat);
            }
            for (int number = 0; number < villageCount; number++) {
                villages[number].endDrumBeat();
            }
            beat++;
            return learned;
        }

        void beginDrumming(int number) {
            Village drummer = villages[number];
            int phrase = drummer.takeFromQueue();
            if (phrase < 0 || phrase >= phraseCount) {
                return;
            }
            int beats = toneCounts[phrase];
            drummer.drumming = phrase;
            drummer.beatsLeft = beats;
            drummings++;
            for (int to = 0; to < villageCount; to++) {
                Village hearer = villages[to];
                int distance = drummer.distanceTo(hearer);
                if (to != number && drummer.isHeardAt(distance)) {
                    int first = beat + distance / DISTANCE_BY_BEAT + 1;
                    hearer.inTheAir.add(phrase, first, beats);
                    if (drummer.cliff) {
                        hearer.inTheAir.add(phrase, first + ECHO_DELAY, beats);
                    }
                }
            }
        }
    }

    /** A village with its drum, its queue, what it knows, and the sounds that come to it. */
    private static final class Village {
        int x;
        int y;
        int drum = SMALLEST_DRUM;
        boolean cliff;
        int awakeFrom;
        int awakeBeats = DAY;
        int drumming = NONE;
        int beatsLeft;
        final int[] queue = new int[MOST_QUEUED];
        int queued;
        final int[] knownSince = new int[MOST_PHRASES];
        final Sounds inTheAir = new Sounds();
        int drowned;

        Village() {
            Arrays.fill(knownSince, NONE);
        }

        void copy(Village other) {
            x = other.x;
            y = other.y;
            drum = other.drum;
            cliff = other.cliff;
            awakeFrom = other.awakeFrom;
            awakeBeats = other.awakeBeats;
            drumming = other.drumming;
            beatsLeft = other.beatsLeft;
            System.arraycopy(other.queue, 0, queue, 0, MOST_QUEUED);
            queued = other.queued;
            System.arraycopy(other.knownSince, 0, knownSince, 0, MOST_PHRASES);
            inTheAir.copy(other.inTheAir);
            drowned = other.drowned;
        }

        int figure(int what, int beat) {
            switch (what) {
                case 0:
                    return x;
                case 1:
                    return y;
                case 2:
                    return drum;
                case 3:
                    return cliff ? 1 : 0;
                case 4:
                    return isAwake(beat) ? 1 : 0;
                case 5:
                    return drumming;
                case 6:
                    return beatsLeft;
                case 7:
                    return queued;
                case 8:
                    return phrasesKnown();
                default:
                    return drowned;
            }
        }

        boolean isAwake(int beat) {
            return Math.floorMod(beat - awakeFrom, DAY) < awakeBeats;
        }

        boolean isDrumming() {
            return drumming != NONE;
        }

        boolean isReady(int beat) {
            return !isDrumming() && queued > 0 && isAwake(beat);
        }

        int distanceTo(Village other) {
            return Math.abs(x - other.x) + Math.abs(y - other.y);
        }

        boolean isHeardAt(int distance) {
            return distance <= EARSHOT_BY_DRUM * drum;
        }

        boolean isKnown(int phrase) {
            return phrase >= 0 && phrase < MOST_PHRASES && knownSince[phrase] != NONE;
        }

        int phrasesKnown() {
            int known = 0;
            for (int phrase = 0; phrase < MOST_PHRASES; phrase++) {
                if (isKnown(phrase)) {
                    known++;
                }
            }
            return known;
        }

        /** It knows the phrase, from this beat on if it did not, and puts it at the end of its queue if there is room. */
        void takeIn(int phrase, int beat) {
            if (phrase < 0 || phrase >= MOST_PHRASES) {
                return;
            }
            if (knownSince[phrase] == NONE) {
                knownSince[phrase] = beat;
            }
            if (queued < MOST_QUEUED) {
                queue[queued] = phrase;
                queued++;
            }
        }

        /** The first phrase of the queue, which leaves it; none if the queue is empty. */
        int takeFromQueue() {
            if (queued == 0) {
                return NONE;
            }
            int first = queue[0];
            queued--;
            System.arraycopy(queue, 1, queue, 0, queued);
            return first;
        }

        void drownIfDisturbed(int beat) {
            if (!isAwake(beat) || isDrumming() || inTheAir.lasting(beat) >= 2) {
                inTheAir.drown(beat);
            }
        }

        /** Ends the sounds whose last beat this is; returns how many of them brought a new phrase. */
        int endSounds(int beat) {
            int learned = 0;
            int kept = 0;
            for (int index = 0; index < inTheAir.size; index++) {
                if (inTheAir.lastBeats[index] != beat) {
                    inTheAir.move(index, kept);
                    kept++;
                } else if (inTheAir.drowned[index] != 0) {
                    drowned++;
                } else if (!isKnown(inTheAir.phrases[index])) {
                    takeIn(inTheAir.phrases[index], beat);
                    learned++;
                }
            }
            inTheAir.size = kept;
            return learned;
        }

        void endDrumBeat() {
            if (!isDrumming()) {
                return;
            }
            beatsLeft--;
            if (beatsLeft == 0) {
                drumming = NONE;
            }
        }
    }

    /** The sounds of one village that came to be and are not over, in the order in which they came to be. */
    private static final class Sounds {
        final int[] phrases = new int[MOST_SOUNDS];
        final int[] firstBeats = new int[MOST_SOUNDS];
        final int[] lastBeats = new int[MOST_SOUNDS];
        final int[] drowned = new int[MOST_SOUNDS];
        int size;

        void copy(Sounds other) {
            System.arraycopy(other.phrases, 0, phrases, 0, other.size);
            System.arraycopy(other.firstBeats, 0, firstBeats, 0, other.size);
            System.arraycopy(other.lastBeats, 0, lastBeats, 0, other.size);
            System.arraycopy(other.drowned, 0, drowned, 0, other.size);
            size = other.size;
        }

        void add(int phrase, int firstBeat, int beats) {
            if (size >= MOST_SOUNDS) {
                return;
            }
            phrases[size] = phrase;
            firstBeats[size] = firstBeat;
            lastBeats[size] = firstBeat + beats - 1;
            drowned[size] = 0;
            size++;
        }

        /** Keeps a sound, at an earlier place or where it is, when others ended ahead of it. */
        void move(int from, int to) {
            if (to < 0 || to >= from || from >= size) {
                return;
            }
            phrases[to] = phrases[from];
            firstBeats[to] = firstBeats[from];
            lastBeats[to] = lastBeats[from];
            drowned[to] = drowned[from];
        }

        int lasting(int beat) {
            int lasting = 0;
            for (int index = 0; index < size; index++) {
                if (firstBeats[index] <= beat) {
                    lasting++;
                }
            }
            return lasting;
        }

        void drown(int beat) {
            for (int index = 0; index < size; index++) {
                if (firstBeats[index] <= beat) {
                    drowned[index] = 1;
                }
            }
        }
    }
}
