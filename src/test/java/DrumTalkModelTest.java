import java.util.ArrayList;
import java.util.HashMap;
import java.util.List;
import java.util.Map;
import java.util.Random;

/**
 * Long runs of calls, the same ones each time, on the class and on a model that is told in the document's own words:
 * a list of all sounds, in the order in which they came to be, and a whole new land for each look ahead.
 */
public final class DrumTalkModelTest {
    private static final int RUNS = 250;
    private static final int CALLS = 160;

    public static void main(String[] args) {
        int wrong = 0;
        for (int seed = 0; seed < RUNS && wrong < 5; seed++) {
            wrong += new Run(seed).go();
        }
        wrong += drumDensely();
        System.out.println(wrong == 0 ? RUNS + " runs answered as the model" : wrong + " runs did not");
        if (wrong != 0) {
            System.exit(1);
        }
    }

    /** Seven villages with cliffs drum without a pause to an eighth one, as far off as drums reach. */
    private static int drumDensely() {
        DrumTalk land = new DrumTalk();
        Model model = new Model();
        for (int number = 0; number < 8; number++) {
            int x = number == 0 ? 0 : 28 - number;
            int y = number == 0 ? 0 : number - 1;
            land.found(x, y, 9);
            model.found(x, y, 9);
            land.setCliff(number, number > 0);
            model.setCliff(number, number > 0);
        }
        for (int tones : new int[] {11111111, 11}) {
            land.phrase(tones);
            model.phrase(tones);
        }
        for (int beat = 0; beat < 80; beat++) {
            for (int number = 1; number < 8; number++) {
                if (land.village(number, 7) < 5) {
                    land.tell(number, beat % 40 == 0 ? 0 : 1);
                    model.tell(number, beat % 40 == 0 ? 0 : 1);
                }
            }
            land.pass(1);
            model.pass(1);
            if (land.digest() != model.digest()) {
                System.out.println("the dense drumming differs in the beat " + beat);
                return 1;
            }
        }
        return 0;
    }

    /** One run of calls on both. It stops at the first answer that differs. */
    private static final class Run {
        private final Random random;
        private final int seed;
        private final int spread;
        private final DrumTalk land = new DrumTalk();
        private final Model model = new Model();
        private final StringBuilder calls = new StringBuilder();

        Run(int seed) {
            this.seed = seed;
            random = new Random(seed);
            spread = new int[] {4, 8, 14, 31}[seed % 4];
        }

        int go() {
            for (int made = 0; made < CALLS; made++) {
                int kind = made < 12 ? random.nextInt(6) : random.nextInt(22);
                int a = number(kind, 0);
                int b = number(kind, 1);
                int c = number(kind, 2);
                String got = answer(() -> ofLand(kind, a, b, c));
                String want = answer(() -> ofModel(kind, a, b, c));
                calls.append(kind).append('(').append(a).append(", ").append(b).append(", ").append(c).append(") ");
                if (!got.equals(want) || land.digest() != model.digest()) {
                    System.out.println("run " + seed + ": " + calls + "answered " + got + ", due is " + want);
                    return 1;
                }
            }
            return 0;
        }

        private int number(int kind, int place) {
            if (random.nextInt(40) == 0) {
                return random.nextInt(300) - 50;
            }
            if (kind == 0 || kind == 1) {
                return place < 2 ? random.nextInt(spread) : 1 + random.nextInt(random.nextInt(3) == 0 ? 9 : 3);
            }
            if (kind == 2 || kind == 3) {
                return place == 0 ? tones() : random.nextInt(8);
            }
            if (kind == 6) {
                return place == 0 ? random.nextInt(8) : 1 + random.nextInt(4);
            }
            if (kind == 8) {
                return place == 0 ? random.nextInt(8) : place == 1 ? random.nextInt(24) : 1 + random.nextInt(24);
            }
            if (kind == 18 || kind == 19 || kind == 21) {
                return 1 + random.nextInt(random.nextInt(8) == 0 ? 200 : 12);
            }
            return random.nextInt(Math.max(1, place == 0 ? model.villages.size() : model.phrases.size()));
        }

        private int tones() {
            int tones = 0;
            int count = 2 + random.nextInt(random.nextBoolean() ? 7 : 2);
            for (int tone = 0; tone < count; tone++) {
                tones = tones * 10 + 1 + random.nextInt(2);
            }
            return tones;
        }

        private long ofLand(int kind, int a, int b, int c) {
            switch (kind) {
                case 0: case 1: return land.found(a, b, c);
                case 2: case 3: return land.phrase(a);
                case 4: case 5: case 9: case 10: return land.tell(a, b);
                case 6: return land.setDrum(a, b);
                case 7: return land.setCliff(a, b % 2 == 0) ? 1 : 0;
                case 8: return land.setAwake(a, b, c);
                case 11: return land.village(a, b);
                case 12: return land.queue(a, b);
                case 13: return land.knows(a, b);
                case 14: return land.sounds(a);
                case 15: return land.count(a);
                case 16: return land.way(a, b);
                case 17: return land.reaches(a, b);
                case 20: return land.best(a, b);
                case 21: return land.larger(a);
                default: return land.pass(a) + Double.doubleToLongBits(land.known());
            }
        }

        private long ofModel(int kind, int a, int b, int c) {
            switch (kind) {
                case 0: case 1: return model.found(a, b, c);
                case 2: case 3: return model.phrase(a);
                case 4: case 5: case 9: case 10: return model.tell(a, b);
                case 6: return model.setDrum(a, b);
                case 7: return model.setCliff(a, b % 2 == 0);
                case 8: return model.setAwake(a, b, c);
                case 11: return model.village(a, b);
                case 12: return model.queue(a, b);
                case 13: return model.knows(a, b);
                case 14: return model.sounds(a);
                case 15: return model.count(a);
                case 16: return model.way(a, b);
                case 17: return model.reaches(a, b);
                case 20: return model.best(a, b);
                case 21: return model.larger(a);
                default: return model.pass(a) + Double.doubleToLongBits(model.known());
            }
        }
    }

    private interface Call {
        long run();
    }

    private static String answer(Call call) {
        try {
            return Long.toString(call.run());
        } catch (RuntimeException e) {
            return e.getClass().getName();
        }
    }

    private record Sound(int born, int from, int to, boolean echo, int phrase, int first, int beats, boolean[] drowned) {
        boolean lasts(int beat) {
            return first <= beat && beat < first + beats;
        }

        Sound twin() {
            return new Sound(born, from, to, echo, phrase, first, beats, drowned.clone());
        }
    }

    private static final class Place {
        int x;
        int y;
        int drum;
        boolean cliff;
        int from;
        int awake = 24;
        int drums = -1;
        int until;
        int drowned;
        List<Integer> queue = new ArrayList<>();
        Map<Integer, Integer> knows = new HashMap<>();

        Place twin() {
            Place twin = new Place();
            twin.x = x;
            twin.y = y;
            twin.drum = drum;
            twin.cliff = cliff;
            twin.from = from;
            twin.awake = awake;
            twin.drums = drums;
            twin.until = until;
            twin.drowned = drowned;
            twin.queue = new ArrayList<>(queue);
            twin.knows = new HashMap<>(knows);
            return twin;
        }

        boolean isAwake(int beat) {
            for (int ahead = 0; ahead < awake; ahead++) {
                if ((from + ahead) % 24 == beat % 24) {
                    return true;
                }
            }
            return false;
        }
    }

    private static final class Model {
        List<Place> villages = new ArrayList<>();
        List<String> phrases = new ArrayList<>();
        List<Sound> sounds = new ArrayList<>();
        int beat;
        int drummings;

        Model twin() {
            Model twin = new Model();
            for (Place village : villages) {
                twin.villages.add(village.twin());
            }
            twin.phrases = new ArrayList<>(phrases);
            for (Sound sound : sounds) {
                twin.sounds.add(sound.twin());
            }
            twin.beat = beat;
            twin.drummings = drummings;
            return twin;
        }

        static void index(boolean there) {
            if (!there) {
                throw new IndexOutOfBoundsException();
            }
        }

        static void argument(boolean legal) {
            if (!legal) {
                throw new IllegalArgumentException();
            }
        }

        static void state(boolean legal) {
            if (!legal) {
                throw new IllegalStateException();
            }
        }

        Place at(int village) {
            index(village >= 0 && village < villages.size());
            return villages.get(village);
        }

        void told(int phrase) {
            index(phrase >= 0 && phrase < phrases.size());
        }

        int found(int x, int y, int drum) {
            argument(x >= 0 && x <= 30 && y >= 0 && y <= 30 && drum >= 1 && drum <= 9);
            state(villages.size() < 8);
            for (Place village : villages) {
                state(village.x != x || village.y != y);
            }
            Place village = new Place();
            village.x = x;
            village.y = y;
            village.drum = drum;
            villages.add(village);
            return villages.size() - 1;
        }

        int setDrum(int village, int drum) {
            int before = at(village).drum;
            argument(drum >= 1 && drum <= 9);
            at(village).drum = drum;
            return before;
        }

        int setCliff(int village, boolean cliff) {
            boolean before = at(village).cliff;
            at(village).cliff = cliff;
            return before ? 1 : 0;
        }

        int setAwake(int village, int from, int beats) {
            int before = at(village).awake;
            argument(from >= 0 && from <= 23 && beats >= 1 && beats <= 24);
            at(village).from = from;
            at(village).awake = beats;
            return before;
        }

        int phrase(int tones) {
            String text = Integer.toString(tones);
            argument(text.matches("[12]{2,8}"));
            state(phrases.size() < 12 && !phrases.contains(text));
            phrases.add(text);
            return phrases.size() - 1;
        }

        int tell(int village, int phrase) {
            Place place = at(village);
            told(phrase);
            state(place.queue.size() < 5);
            place.queue.add(phrase);
            place.knows.putIfAbsent(phrase, beat);
            return place.queue.size();
        }

        int village(int village, int what) {
            Place place = at(village);
            index(what >= 0 && what <= 9);
            int[] figures = {place.x, place.y, place.drum, place.cliff ? 1 : 0, place.isAwake(beat) ? 1 : 0, place.drums,
                place.drums < 0 ? 0 : place.until - beat, place.queue.size(), place.knows.size(), place.drowned};
            return figures[what];
        }

        int queue(int village, int index) {
            Place place = at(village);
            index(index >= 0 && index < place.queue.size());
            return place.queue.get(index);
        }

        int knows(int village, int phrase) {
            Place place = at(village);
            told(phrase);
            return place.knows.getOrDefault(phrase, -1);
        }

        int sounds(int village) {
            at(village);
            return lasting(village).size();
        }

        List<Sound> lasting(int village) {
            List<Sound> lasting = new ArrayList<>();
            for (Sound sound : sounds) {
                if (sound.to == village && sound.lasts(beat)) {
                    lasting.add(sound);
                }
            }
            return lasting;
        }

        int count(int what) {
            index(what >= 0 && what <= 7);
            int drum = 0;
            int drowned = 0;
            int pairs = 0;
            for (Place village : villages) {
                drum += village.drums >= 0 ? 1 : 0;
                drowned += village.drowned;
                pairs += village.knows.size();
            }
            return new int[] {beat, villages.size(), phrases.size(), drum, sounds.size(), drummings, drowned, pairs}[what];
        }

        boolean hears(int from, int to) {
            return distance(from, to) <= 3 * villages.get(from).drum;
        }

        int distance(int from, int to) {
            Place one = villages.get(from);
            Place other = villages.get(to);
            return Math.abs(one.x - other.x) + Math.abs(one.y - other.y);
        }

        int way(int from, int to) {
            at(from);
            at(to);
            int size = villages.size();
            int[][] ways = new int[size][size];
            for (int a = 0; a < size; a++) {
                for (int b = 0; b < size; b++) {
                    ways[a][b] = a == b ? 0 : hears(a, b) ? 1 : 100;
                }
            }
            for (int by = 0; by < size; by++) {
                for (int a = 0; a < size; a++) {
                    for (int b = 0; b < size; b++) {
                        ways[a][b] = Math.min(ways[a][b], ways[a][by] + ways[by][b]);
                    }
                }
            }
            return ways[from][to] >= 100 ? -1 : ways[from][to];
        }

        int pass(int beats) {
            argument(beats >= 1 && beats <= 200);
            return go(beats);
        }

        int go(int beats) {
            int before = count(7);
            for (int gone = 0; gone < beats; gone++) {
                for (int village = 0; village < villages.size(); village++) {
                    begin(village);
                }
                for (int village = 0; village < villages.size(); village++) {
                    disturb(village);
                }
                end();
                for (Place village : villages) {
                    if (village.until == beat + 1) {
                        village.drums = -1;
                    }
                }
                beat++;
            }
            return count(7) - before;
        }

        void begin(int village) {
            Place place = villages.get(village);
            if (place.drums >= 0 || !place.isAwake(beat) || place.queue.isEmpty()) {
                return;
            }
            int phrase = place.queue.remove(0);
            int beats = phrases.get(phrase).length();
            place.drums = phrase;
            place.until = beat + beats;
            drummings++;
            for (int to = 0; to < villages.size(); to++) {
                if (to != village && hears(village, to)) {
                    int first = beat + distance(village, to) / 3 + 1;
                    sounds.add(new Sound(beat, village, to, false, phrase, first, beats, new boolean[1]));
                    if (place.cliff) {
                        sounds.add(new Sound(beat, village, to, true, phrase, first + 4, beats, new boolean[1]));
                    }
                }
            }
        }

        void disturb(int village) {
            Place place = villages.get(village);
            List<Sound> lasting = lasting(village);
            if (!place.isAwake(beat) || place.drums >= 0 || lasting.size() >= 2) {
                for (Sound sound : lasting) {
                    sound.drowned[0] = true;
                }
            }
        }

        void end() {
            List<Sound> kept = new ArrayList<>();
            for (Sound sound : sounds) {
                if (beat < sound.first + sound.beats - 1) {
                    kept.add(sound);
                    continue;
                }
                Place place = villages.get(sound.to);
                if (sound.drowned[0]) {
                    place.drowned++;
                } else if (!place.knows.containsKey(sound.phrase)) {
                    place.knows.put(sound.phrase, beat);
                    if (place.queue.size() < 5) {
                        place.queue.add(sound.phrase);
                    }
                }
            }
            sounds = kept;
        }

        int reaches(int village, int phrase) {
            at(village);
            told(phrase);
            Model ahead = twin();
            for (int beats = 0; beats <= 200; beats++) {
                if (ahead.knows(village, phrase) >= 0) {
                    return beats;
                }
                ahead.go(1);
            }
            return -1;
        }

        int knowers(int phrase) {
            int knowers = 0;
            for (Place village : villages) {
                knowers += village.knows.containsKey(phrase) ? 1 : 0;
            }
            return knowers;
        }

        int best(int village, int phrase) {
            at(village);
            told(phrase);
            Model without = twin();
            without.go(80);
            int best = -1;
            int most = without.knowers(phrase);
            for (int wait = 0; wait <= 23; wait++) {
                Model with = twin();
                with.go(wait);
                if (with.at(village).queue.size() < 5) {
                    with.tell(village, phrase);
                }
                with.go(80 - wait);
                if (with.knowers(phrase) > most) {
                    most = with.knowers(phrase);
                    best = wait;
                }
            }
            return best;
        }

        int larger(int beats) {
            argument(beats >= 1 && beats <= 100);
            Model same = twin();
            same.go(beats);
            int best = -1;
            int most = same.count(7);
            for (int village = 0; village < villages.size(); village++) {
                Model with = twin();
                with.at(village).drum++;
                with.go(beats);
                if (at(village).drum < 9 && with.count(7) > most) {
                    most = with.count(7);
                    best = village;
                }
            }
            return best;
        }

        double known() {
            return villages.isEmpty() || phrases.isEmpty() ? 0 : (double) count(7) / (villages.size() * phrases.size());
        }

        long digest() {
            List<Integer> numbers = new ArrayList<>();
            for (int what = 0; what <= 7; what++) {
                numbers.add(count(what));
            }
            for (String phrase : phrases) {
                numbers.add(Integer.valueOf(phrase));
            }
            for (int village = 0; village < villages.size(); village++) {
                for (int what = 0; what <= 9; what++) {
                    numbers.add(village(village, what));
                }
                numbers.add(sounds(village));
                numbers.addAll(villages.get(village).queue);
                for (int phrase = 0; phrase < phrases.size(); phrase++) {
                    numbers.add(knows(village, phrase));
                }
            }
            long d = 769;
            for (int number : numbers) {
                d = d * 31 + number;
            }
            return d;
        }
    }
}
