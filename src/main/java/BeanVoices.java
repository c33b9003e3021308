/**
 * Beans as voices: rows, texts, a garden of plants whose pods say words, and what can be told of them.
 *
 * Everything that a call needs is made in the constructor and used again, so that calls make no objects.
 */
public final class BeanVoices {
    public static final int BAD = -1, FULL = -2, FINDING = -3, STATE = -4, SPENT = -6, NONE = -9;

    private static final int FINE = 0;

    private static final int NOTHING = 1, BEYOND = 2, UNLIKE = 3, NOUGHT = 4, SIZE = 5;

    private static final int BEAN = 0, RUNNER = 1, DWARF = 2, BROAD = 3, SCARLET = 4, STUTTER = 5;
    private static final int KINDS_MOST = 6;
    private static final int[] LETTERS = {98, 114, 100, 111, 99, 115};

    private static final int ROWS = 6, ROW_MOST = 40;
    private static final int TEXTS = 4, TEXT_MOST = 60, BLANK = 32;
    private static final int PLANTS_MOST = 6, PODS_MOST = 9, WATER_MOST = 9;
    private static final int WORDS = 10, NO_WORD = 10, SEEDS = 10, SAYING_MOST = 5;
    private static final int DEEDS_MOST = 40, KEPT = 3;
    private static final int WHEN_MOST = 99, SOONER_MOST = 40, SOONEST_MOST = 60;
    private static final int TURNS_MOST = 5, SLUGS_OF = 12;
    private static final int LOTS_MOST = 20;
    private static final long LOTS_BY = 48271L, LOTS_MODULO = 2147483647L;

    /** What the DEEDS are; a DEED is one of these times DEED_BY and the number of its PLANT. */
    private static final int PASSING = 0, WATERING = 1, PICKING = 2, EATING = 3;
    private static final int DEED_BY = 10;

    /** What plant() tells of a PLANT and count() of all. */
    private static final int WETNESS = 4, PICKED = 5, FEATURE_LAST = 7;

    private static final int COUNT_LAST = 10;

    private final Shelf rows = new Shelf(ROWS, ROW_MOST);
    private final Shelf texts = new Shelf(TEXTS, TEXT_MOST);
    private final Shelf kept = new Shelf(KEPT, DEEDS_MOST);
    private final Reader reader = new Reader();
    private final Garden terrace = new Garden();
    private final Harvest harvest = new Harvest(terrace);
    private final Sayings sayings = new Sayings(terrace, harvest);
    private final Clues clues = new Clues();
    private final Chance chance = new Chance();
    private final int[] tally = new int[SIZE + 1];
    private int latest = 0;
    private int told = 0;

    public BeanVoices() {
    }

    // ---- 1 rows, texts, gardens

    public int row(int r, int n) {
        return makeAnew(rows.strip(r), n, ROW_MOST, 0);
    }

    public int lay(int r, int i, int v) {
        Strip strip = rows.strip(r);
        if (strip == null) {
            return BAD;
        }
        int refused = refusePlace(strip, i);
        if (refused != FINE) {
            return refused;
        }
        told = strip.get(i);
        strip.set(i, v);
        return 1;
    }

    public int at(int r, int i) {
        Strip strip = rows.strip(r);
        if (strip == null) {
            return BAD;
        }
        int refused = refusePlace(strip, i);
        if (refused != FINE) {
            return refused;
        }
        told = strip.get(i);
        return 1;
    }

    public int tear(int r) {
        Strip strip = rows.strip(r);
        if (strip == null) {
            return BAD;
        }
        if (strip.missing()) {
            return found(NOTHING);
        }
        strip.lose();
        return 1;
    }

    public int copy(int r, int i, int to, int j, int n) {
        Strip from = rows.strip(r);
        Strip into = rows.strip(to);
        if (from == null || into == null) {
            return BAD;
        }
        if (n < 0) {
            return found(SIZE);
        }
        if (from.missing() || into.missing()) {
            return found(NOTHING);
        }
        if (!from.holds(i, n) || !into.holds(j, n)) {
            return found(BEYOND);
        }
        into.bring(from, i, j, n);
        return 1;
    }

    public int mean(int r) {
        Strip strip = rows.strip(r);
        if (strip == null) {
            return BAD;
        }
        if (strip.missing()) {
            return found(NOTHING);
        }
        int size = strip.size();
        if (size <= 0) {
            return found(NOUGHT);
        }
        long sum = 0;
        for (int i = 0; i < size; i++) {
            sum += strip.get(i);
        }
        told = (int) (sum / size);
        return 1;
    }

    public int text(int t, int n) {
        return makeAnew(texts.strip(t), n, TEXT_MOST, BLANK);
    }

    public int put(int t, int i, int v) {
        Strip strip = texts.strip(t);
        if (strip == null) {
            return BAD;
        }
        int refused = refusePlace(strip, i);
        if (refused != FINE) {
            return refused;
        }
        int was = strip.get(i);
        strip.set(i, (byte) v);
        return was + 1000;
    }

    public int fault(int t) {
        Strip strip = texts.strip(t);
        if (strip == null) {
            return BAD;
        }
        return strip.missing() ? found(NOTHING) : reader.read(strip);
    }

    public int garden(int t) {
        Strip strip = texts.strip(t);
        if (strip == null) {
            return BAD;
        }
        if (strip.missing()) {
            return found(NOTHING);
        }
        if (reader.read(strip) != NONE) {
            return STATE;
        }
        terrace.sow(reader);
        kept.loseAll();
        return terrace.size();
    }

    public int plant(int i, int what) {
        Plant plant = terrace.plantOf(i);
        if (plant == null || what < 0 || what > FEATURE_LAST) {
            return BAD;
        }
        told = plant.feature(what, terrace.today());
        return 1;
    }

    public int mark(int i, int kind) {
        Plant plant = terrace.plantOf(i);
        if (plant == null || kind <= BEAN || kind >= KINDS_MOST) {
            return BAD;
        }
        if (!Kind.isOf(plant.kind, kind)) {
            return found(UNLIKE);
        }
        return plant.markOf(kind, terrace.today());
    }

    public int word(int i, int k) {
        Plant plant = terrace.plantOf(i);
        return plant == null || !isPod(k) ? BAD : plant.says(k);
    }

    // ---- 2 deeds

    public int day() {
        if (terrace.bare()) {
            return STATE;
        }
        if (terrace.tooMany(1)) {
            return FULL;
        }
        terrace.act(PASSING, 0);
        return terrace.today();
    }

    public int water(int i) {
        Plant plant = terrace.plantOf(i);
        if (plant == null) {
            return BAD;
        }
        if (!plant.canDrink()) {
            return STATE;
        }
        if (terrace.tooMany(1)) {
            return FULL;
        }
        terrace.act(WATERING, i);
        return plant.wet;
    }

    public int pick(int i) {
        Plant plant = terrace.plantOf(i);
        if (plant == null) {
            return BAD;
        }
        if (plant.openPods(terrace.today()) == 0) {
            return STATE;
        }
        if (terrace.tooMany(1)) {
            return FULL;
        }
        terrace.act(PICKING, i);
        return terrace.saidLast();
    }

    public int goat(int i) {
        Plant plant = terrace.plantOf(i);
        if (plant == null) {
            return BAD;
        }
        if (plant.eaten) {
            return STATE;
        }
        if (terrace.tooMany(1)) {
            return FULL;
        }
        terrace.act(EATING, i);
        return Integer.bitCount(terrace.leftPlants());
    }

    public int undo(int n) {
        int done = terrace.deeds().size();
        if (n < 0 || n > done) {
            return BAD;
        }
        terrace.goBack(n);
        return done - n;
    }

    public int keep(int k) {
        Strip place = kept.strip(k);
        if (place == null) {
            return BAD;
        }
        if (terrace.bare()) {
            return STATE;
        }
        place.become(terrace.deeds());
        return place.size();
    }

    public int on(int k) {
        Strip place = kept.strip(k);
        if (place == null) {
            return BAD;
        }
        if (place.missing()) {
            return found(NOTHING);
        }
        terrace.goOnFrom(place);
        return place.size();
    }

    // ---- 3 what is ripe (aside)

    public int ripe() {
        if (terrace.bare()) {
            return STATE;
        }
        harvest.begin();
        told = harvest.openWords();
        return harvest.openPlants();
    }

    public int when(int i, int k) {
        Plant plant = terrace.plantOf(i);
        if (plant == null || !isPod(k)) {
            return BAD;
        }
        return plant.daysTo(k, plant.wet, terrace.today(), WHEN_MOST);
    }

    public int sooner(int i, int k, int n) {
        Plant plant = terrace.plantOf(i);
        if (plant == null || !isPod(k) || n < 0 || n > SOONER_MOST) {
            return BAD;
        }
        for (int wet = plant.wet; wet <= WATER_MOST; wet++) {
            if (plant.daysTo(k, wet, terrace.today(), n) != NONE) {
                return wet - plant.wet;
            }
        }
        return NONE;
    }

    // ---- 4 sayings

    public int soonest(int r, int to) {
        Strip into = rows.strip(to);
        if (into == null) {
            return BAD;
        }
        int refused = hearSaying(rows.strip(r));
        if (refused != FINE) {
            return refused;
        }
        int days = sayings.seekSoonest();
        if (days != NONE) {
            into.become(sayings.soonestWay());
        }
        return days;
    }

    public int ways(int r) {
        int refused = hearSaying(rows.strip(r));
        if (refused != FINE) {
            return refused;
        }
        sayings.countWays();
        chance.tell(sayings.howMany(), 1);
        told = sayings.plantsInAll();
        return 1;
    }

    public int none(int r) {
        int refused = hearSaying(rows.strip(r));
        if (refused != FINE) {
            return refused;
        }
        sayings.countWays();
        if (sayings.howMany() == 0) {
            return found(NOUGHT);
        }
        told = sayings.firstPlant();
        return terrace.allPlants() & ~sayings.plantsInAny();
    }

    public int often(int word) {
        if (!isWord(word)) {
            return BAD;
        }
        if (terrace.bare()) {
            return STATE;
        }
        int times = 0;
        int sayers = 0;
        for (int i = 0; i < terrace.size(); i++) {
            Plant plant = terrace.plantOf(i);
            int run = plant == null ? 0 : plant.running(word, terrace.today());
            times += run;
            sayers += run > 0 ? 1 : 0;
        }
        told = sayers;
        return times;
    }

    // ---- 5 what is in a pod

    public int seeds(int i, int r) {
        Plant plant = terrace.plantOf(i);
        if (plant == null) {
            return BAD;
        }
        int refused = hearPairs(rows.strip(r));
        return refused != FINE ? refused : clues.seedsOf(plant.kind);
    }

    public int kinds(int i, int r) {
        Plant plant = terrace.plantOf(i);
        if (plant == null) {
            return BAD;
        }
        int refused = hearPairs(rows.strip(r));
        return refused != FINE ? refused : clues.kindsBy(plant.seed);
    }

    public int guess(int i, int k, int r) {
        if (terrace.plantOf(i) == null || !isPod(k)) {
            return BAD;
        }
        int refused = hearPairs(rows.strip(r));
        return refused != FINE ? refused : clues.wordsIn(k);
    }

    public int listen(int i, int r) {
        if (terrace.plantOf(i) == null) {
            return BAD;
        }
        int refused = hearPairs(rows.strip(r));
        if (refused != FINE) {
            return refused;
        }
        int pod = clues.bestPod();
        if (pod != NONE) {
            told = clues.greatestPart(pod);
        }
        return pod;
    }

    // ---- 6 by turns

    public int duel(int n) {
        if (n < 0 || n > TURNS_MOST) {
            return BAD;
        }
        if (terrace.bare()) {
            return STATE;
        }
        harvest.begin();
        return harvest.play(n);
    }

    // ---- 7 chances, lots

    public int odds(int v, int p) {
        if (v < 0 || v > PLANTS_MOST || p < 0 || p > SLUGS_OF) {
            return BAD;
        }
        if (terrace.bare()) {
            return STATE;
        }
        harvest.begin();
        chance.tellLeft(harvest, v, p);
        return 1;
    }

    public int mid(int p) {
        if (p < 0 || p > SLUGS_OF) {
            return BAD;
        }
        if (terrace.bare()) {
            return STATE;
        }
        harvest.begin();
        chance.tellGreatest(harvest, p);
        return 1;
    }

    public int lots(int n, int seed) {
        if (n < 1 || n > LOTS_MOST || seed < 1 || seed >= LOTS_MODULO) {
            return BAD;
        }
        if (terrace.bare()) {
            return STATE;
        }
        if (terrace.tooMany(n)) {
            return FULL;
        }
        return terrace.actByLots(n, seed);
    }

    // ---- 8 what is told

    public int asked() {
        return told;
    }

    public long upper() {
        return chance.top;
    }

    public long lower() {
        return chance.bottom;
    }

    public int count(int what) {
        switch (what) {
            case 0: return terrace.size();
            case 1: return terrace.today();
            case 2: return terrace.deeds().size();
            case 3: return terrace.sumOf(PICKED);
            case 4: return terrace.sumOf(WETNESS);
            case 5: return terrace.leftPlants();
            case 6: return terrace.saidLast();
            case 7: return terrace.runners();
            case 8: return rows.there();
            case 9: return texts.there();
            case 10: return kept.there();
            default: return BAD;
        }
    }

    public int finding() {
        return latest;
    }

    public int findings(int f) {
        return f < NOTHING || f > SIZE || f >= tally.length ? BAD : tally[f];
    }

    public long digest() {
        long h = 17;
        for (int what = 0; what <= COUNT_LAST; what++) {
            h = 31 * h + count(what);
        }
        for (int i = 0; i < terrace.size(); i++) {
            Plant plant = terrace.plantOf(i);
            for (int what = 0; plant != null && what <= FEATURE_LAST; what++) {
                h = 31 * h + plant.feature(what, terrace.today());
            }
        }
        for (int k = 0; k < KEPT; k++) {
            Strip place = kept.strip(k);
            h = place == null ? h : 31 * h + place.size();
        }
        return texts.fold(rows.fold(h));
    }

    // ---- what the calls share

    private int found(int f) {
        latest = f;
        if (f >= 0 && f < tally.length) {
            tally[f]++;
        }
        return FINDING;
    }

    private static boolean isPod(int k) {
        return k >= 0 && k < PODS_MOST;
    }

    private static boolean isWord(int word) {
        return word >= 0 && word < WORDS;
    }

    private int makeAnew(Strip strip, int n, int most, int v) {
        if (strip == null || n > most) {
            return BAD;
        }
        if (n < 0) {
            return found(SIZE);
        }
        strip.begin(n, v);
        return n;
    }

    private int refusePlace(Strip strip, int i) {
        if (strip == null || strip.missing()) {
            return found(NOTHING);
        }
        return strip.holds(i, 1) ? FINE : found(BEYOND);
    }

    private int hearSaying(Strip saying) {
        if (saying == null) {
            return BAD;
        }
        if (terrace.bare()) {
            return STATE;
        }
        if (saying.missing()) {
            return found(NOTHING);
        }
        if (saying.size() > SAYING_MOST) {
            return found(SIZE);
        }
        for (int i = 0; i < saying.size(); i++) {
            if (!isWord(saying.get(i))) {
                return found(UNLIKE);
            }
        }
        sayings.hear(saying);
        return FINE;
    }

    private int hearPairs(Strip pairs) {
        if (pairs == null) {
            return BAD;
        }
        if (pairs.missing()) {
            return found(NOTHING);
        }
        if (pairs.size() % 2 != 0) {
            return found(SIZE);
        }
        for (int i = 0; i < pairs.size(); i += 2) {
            if (!isPod(pairs.get(i)) || !isWord(pairs.get(i + 1))) {
                return found(UNLIKE);
            }
        }
        clues.hear(pairs);
        return FINE;
    }

    /** A run of numbers that may be missing: a ROW, a TEXT, the DEEDS of a GARDEN. */
    private static final class Strip {
        private final int[] places;
        private int size = -1;

        Strip(int most) {
            places = new int[Math.max(most, 0)];
        }

        boolean missing() {
            return size < 0;
        }

        /** Also -1 for a missing one, as the digest wants it. */
        int size() {
            return size;
        }

        boolean holds(int from, int many) {
            return many >= 0 && from >= 0 && many <= size && from <= size - many;
        }

        int get(int i) {
            return i >= 0 && i < size && i < places.length ? places[i] : 0;
        }

        void set(int i, int v) {
            if (i >= 0 && i < size && i < places.length) {
                places[i] = v;
            }
        }

        void begin(int n, int v) {
            size = Math.max(0, Math.min(n, places.length));
            for (int i = 0; i < size && i < places.length; i++) {
                places[i] = v;
            }
        }

        void add(int v) {
            if (size >= 0 && size < places.length) {
                places[size] = v;
                size++;
            }
        }

        void shorten(int n) {
            if (n >= 0 && n < size) {
                size = n;
            }
        }

        void lose() {
            size = -1;
        }

        void bring(Strip from, int i, int j, int n) {
            if (from != null && from.holds(i, n) && holds(j, n)) {
                System.arraycopy(from.places, i, places, j, n);
            }
        }

        void become(Strip other) {
            if (other == null || other.missing()) {
                lose();
                return;
            }
            begin(other.size, 0);
            bring(other, 0, 0, size);
        }
    }

    /** Strips by number. */
    private static final class Shelf {
        private final Strip[] strips;

        Shelf(int many, int most) {
            strips = new Strip[Math.max(many, 0)];
            for (int i = 0; i < strips.length; i++) {
                strips[i] = new Strip(most);
            }
        }

        /** Null where the number is none, so that asking for a strip is the test of its number. */
        Strip strip(int i) {
            return i >= 0 && i < strips.length ? strips[i] : null;
        }

        int there() {
            int many = 0;
            for (int i = 0; i < strips.length; i++) {
                Strip strip = strips[i];
                many += strip != null && !strip.missing() ? 1 : 0;
            }
            return many;
        }

        void loseAll() {
            for (int i = 0; i < strips.length; i++) {
                Strip strip = strips[i];
                if (strip != null) {
                    strip.lose();
                }
            }
        }

        long fold(long before) {
            long h = before;
            for (int i = 0; i < strips.length; i++) {
                Strip strip = strips[i];
                h = strip == null ? h : 31 * h + strip.size();
                for (int j = 0; strip != null && j < strip.size(); j++) {
                    h = 31 * h + strip.get(j);
                }
            }
            return h;
        }
    }

    /** What the KINDS differ in; a KIND stays a number, as clues ask of KINDS that no PLANT here has. */
    private static final class Kind {
        private Kind() {
        }

        static int byLetter(int sign) {
            for (int kind = 0; kind < LETTERS.length; kind++) {
                if (LETTERS[kind] == sign) {
                    return kind;
                }
            }
            return NONE;
        }

        static boolean isOf(int kind, int other) {
            return kind == other || other == BEAN
                    || kind == SCARLET && other == RUNNER
                    || kind == STUTTER && other == DWARF;
        }

        static int beanPods(int age, int pace) {
            return age <= 0 || pace <= 0 ? 0 : Math.min(PODS_MOST, age / pace);
        }

        static int ripePods(int kind, int age, int pace) {
            int pods = beanPods(age, pace);
            if (isOf(kind, RUNNER)) {
                return age > 0 ? Math.min(PODS_MOST, pods + 1) : 0;
            }
            return isOf(kind, DWARF) ? pods / 2 : pods;
        }

        static int says(int kind, int seed, int pod) {
            switch (kind) {
                case RUNNER: return (seed + 3 * pod) % WORDS;
                case BROAD: return (seed + 2 * pod) % WORDS;
                case SCARLET: return (seed + 3 * pod + 1) % WORDS;
                case STUTTER: return (seed + pod / 2) % WORDS;
                default: return (seed + pod) % WORDS;
            }
        }
    }

    /** Reads a TEXT as a GARDEN. */
    private static final class Reader {
        private static final int PARTS = 4;

        private final Strip parts = new Strip(PLANTS_MOST * PARTS);

        /** The first FAULT, or NONE. */
        int read(Strip signs) {
            parts.begin(0, 0);
            int size = signs == null ? 0 : signs.size();
            for (int i = 0; i < size; i++) {
                int sign = signs.get(i);
                boolean between = parts.size() % PARTS == 0;
                if (between && sign == BLANK) {
                    continue;
                }
                int value = valueOf(sign);
                if (value == NONE) {
                    return i;
                }
                parts.add(value);
            }
            boolean whole = parts.size() > 0 && parts.size() % PARTS == 0;
            return whole ? NONE : size;
        }

        private int valueOf(int sign) {
            int part = parts.size() % PARTS;
            if (part == 0) {
                return plants() == PLANTS_MOST ? NONE : Kind.byLetter(sign);
            }
            int figure = sign - '0';
            int least = part == 2 ? 1 : 0;
            return figure >= least && figure <= 9 ? figure : NONE;
        }

        int plants() {
            return parts.size() / PARTS;
        }

        int part(int i, int part) {
            return parts.get(i * PARTS + part);
        }
    }

    private static final class Plant {
        private int kind;
        private int start;
        private int pace;
        private int seed;
        private int wet;
        private int picked;
        private boolean eaten;

        void sow(Reader reader, int i) {
            kind = reader.part(i, 0);
            start = reader.part(i, 1);
            pace = reader.part(i, 2);
            seed = reader.part(i, 3);
            renew();
        }

        void renew() {
            wet = 0;
            picked = 0;
            eaten = false;
        }

        int age(int day) {
            return Math.max(0, day + wet - start);
        }

        int says(int pod) {
            return Kind.says(kind, seed, pod);
        }

        int ripePods(int day) {
            return Kind.ripePods(kind, age(day), pace);
        }

        boolean mayBePicked(int day) {
            return kind != BROAD || day % 2 == 0;
        }

        boolean canDrink() {
            return !eaten && wet < WATER_MOST;
        }

        /** How many PODS, from the next one on, can be picked on that DAY. */
        int openPods(int day) {
            return eaten || !mayBePicked(day) ? 0 : Math.max(0, ripePods(day) - picked);
        }

        int running(int word, int day) {
            int open = openPods(day);
            int run = 0;
            while (run < open && says(picked + run) == word) {
                run++;
            }
            return run;
        }

        /** In how many DAYS of those to come a POD is ripe on a DAY for picking, if the WATER were so much. */
        int daysTo(int pod, int wetness, int day, int most) {
            for (int days = 0; !eaten && days <= most; days++) {
                int age = Math.max(0, day + days + wetness - start);
                if (mayBePicked(day + days) && Kind.ripePods(kind, age, pace) > pod) {
                    return days;
                }
            }
            return NONE;
        }

        int feature(int what, int day) {
            switch (what) {
                case 0: return kind;
                case 1: return start;
                case 2: return pace;
                case 3: return seed;
                case WETNESS: return wet;
                case PICKED: return picked;
                case 6: return ripePods(day);
                default: return eaten ? 1 : 0;
            }
        }

        /** For a KIND above BEAN that the PLANT is of. */
        int markOf(int asKind, int day) {
            int beans = Kind.beanPods(age(day), pace);
            switch (asKind) {
                case RUNNER: return ripePods(day) - beans;
                case DWARF: return beans - ripePods(day);
                case BROAD: return mayBePicked(day) ? 0 : 1;
                case SCARLET: return says(0) - Kind.says(RUNNER, seed, 0) + 10;
                default: return saysAgain() ? 1 : 0;
            }
        }

        private boolean saysAgain() {
            return picked > 0 && picked < PODS_MOST && says(picked) == says(picked - 1);
        }
    }

    /** The PLANTS and their DEEDS. What was done is kept as DEEDS alone, and done again from the first one. */
    private static final class Garden {
        private final Plant[] plants = new Plant[PLANTS_MOST];
        private final Strip deeds = new Strip(DEEDS_MOST);
        private int size = 0;
        private int days = 0;
        private int said = NO_WORD;

        Garden() {
            for (int i = 0; i < plants.length; i++) {
                plants[i] = new Plant();
            }
            deeds.begin(0, 0);
        }

        /** Null where the number is none, so that asking for a PLANT is the test of its number. */
        Plant plantOf(int i) {
            return i >= 0 && i < size && i < plants.length ? plants[i] : null;
        }

        int size() {
            return size;
        }

        boolean bare() {
            return size <= 0;
        }

        int today() {
            return days;
        }

        int saidLast() {
            return said;
        }

        Strip deeds() {
            return deeds;
        }

        void sow(Reader reader) {
            size = reader.plants();
            for (int i = 0; i < size; i++) {
                Plant plant = plantOf(i);
                if (plant != null) {
                    plant.sow(reader, i);
                }
            }
            goBack(0);
        }

        boolean tooMany(int more) {
            return deeds.size() + more > DEEDS_MOST;
        }

        void act(int what, int i) {
            deeds.add(what * DEED_BY + i);
            happen(what, plantOf(i));
        }

        private void happen(int what, Plant plant) {
            if (plant == null) {
                return;
            }
            switch (what) {
                case PASSING:
                    days++;
                    break;
                case WATERING:
                    plant.wet++;
                    break;
                case PICKING:
                    said = plant.says(plant.picked);
                    plant.picked++;
                    break;
                default:
                    plant.eaten = true;
                    break;
            }
        }

        void goBack(int n) {
            deeds.shorten(n);
            doAgain();
        }

        void goOnFrom(Strip place) {
            deeds.become(place);
            doAgain();
        }

        private void doAgain() {
            days = 0;
            said = NO_WORD;
            for (int i = 0; i < size; i++) {
                Plant plant = plantOf(i);
                if (plant != null) {
                    plant.renew();
                }
            }
            for (int n = 0; n < deeds.size(); n++) {
                int deed = deeds.get(n);
                happen(deed / DEED_BY, plantOf(deed % DEED_BY));
            }
        }

        int actByLots(int n, int seed) {
            long lot = seed;
            int sum = 0;
            for (int turn = 0; turn < n && size > 0; turn++) {
                lot = LOTS_BY * lot % LOTS_MODULO;
                int i = (int) (lot / 8 % size);
                Plant plant = plantOf(i);
                if (plant != null && plant.openPods(days) > 0) {
                    act(PICKING, i);
                    sum += said;
                } else if (plant != null && plant.canDrink() && lot % 3 == 0) {
                    act(WATERING, i);
                } else {
                    act(PASSING, 0);
                }
            }
            return sum;
        }

        int allPlants() {
            return (1 << size) - 1;
        }

        int leftPlants() {
            int bits = 0;
            for (int i = 0; i < size; i++) {
                Plant plant = plantOf(i);
                bits |= plant != null && !plant.eaten ? 1 << i : 0;
            }
            return bits;
        }

        int sumOf(int what) {
            int sum = 0;
            for (int i = 0; i < size; i++) {
                Plant plant = plantOf(i);
                sum += plant == null ? 0 : plant.feature(what, days);
            }
            return sum;
        }

        int runners() {
            int many = 0;
            for (int i = 0; i < size; i++) {
                Plant plant = plantOf(i);
                many += plant != null && Kind.isOf(plant.kind, RUNNER) ? 1 : 0;
            }
            return many;
        }
    }

    /** What can be picked today; searches pick and give back here, in thought alone. */
    private static final class Harvest {
        private final Garden garden;
        private final int[] open = new int[PLANTS_MOST];
        private final int[] next = new int[PLANTS_MOST];

        Harvest(Garden garden) {
            this.garden = garden;
        }

        void begin() {
            for (int i = 0; i < open.length && i < next.length; i++) {
                Plant plant = garden.plantOf(i);
                open[i] = plant == null ? 0 : plant.openPods(garden.today());
                next[i] = plant == null ? 0 : plant.picked;
            }
        }

        boolean isOpen(int i) {
            return i >= 0 && i < open.length && open[i] > 0;
        }

        /** The WORD of the next POD. */
        int says(int i) {
            Plant plant = garden.plantOf(i);
            return plant == null || i >= next.length ? NO_WORD : plant.says(next[i]);
        }

        void take(int i) {
            if (i >= 0 && i < open.length && i < next.length) {
                open[i]--;
                next[i]++;
            }
        }

        void giveBack(int i) {
            if (i >= 0 && i < open.length && i < next.length) {
                open[i]++;
                next[i]--;
            }
        }

        int openPlants() {
            int bits = 0;
            for (int i = 0; i < PLANTS_MOST; i++) {
                bits |= isOpen(i) ? 1 << i : 0;
            }
            return bits;
        }

        int openWords() {
            int bits = 0;
            for (int i = 0; i < PLANTS_MOST; i++) {
                bits |= isOpen(i) ? 1 << says(i) : 0;
            }
            return bits;
        }

        /** How many PLANTS have a next POD that can be picked and says at least that WORD. */
        int sayingAtLeast(int word) {
            int many = 0;
            for (int i = 0; i < PLANTS_MOST; i++) {
                many += isOpen(i) && says(i) >= word ? 1 : 0;
            }
            return many;
        }

        int play(int turns) {
            return playTurns(Math.min(turns, TURNS_MOST), true);
        }

        /** What all WORDS of the turns left make, if each of the two picks as well as can be. */
        private int playTurns(int turns, boolean wantsMuch) {
            int best = NONE;
            for (int i = 0; i < PLANTS_MOST && turns > 0; i++) {
                if (!isOpen(i)) {
                    continue;
                }
                int sum = says(i);
                take(i);
                sum += playTurns(turns - 1, !wantsMuch);
                giveBack(i);
                if (best == NONE || (wantsMuch ? sum > best : sum < best)) {
                    best = sum;
                }
            }
            return best == NONE ? 0 : best;
        }
    }

    /** The WAYS of a SAYING. */
    private static final class Sayings {
        private final Garden garden;
        private final Harvest harvest;
        private final Strip words = new Strip(SAYING_MOST);
        private final Strip way = new Strip(SAYING_MOST);
        private final Strip bestWay = new Strip(SAYING_MOST);
        /** In how many DAYS the next POD of each PLANT, the one behind it, .. can be picked. */
        private final Strip dues = new Strip(PLANTS_MOST * SAYING_MOST);
        /** How many PODS of each PLANT the WAY has so far. */
        private final Strip used = new Strip(PLANTS_MOST);
        private int fewest = NONE;
        private int many = 0;
        private int inAll = 0;
        private int inAny = 0;
        private int first = NONE;

        Sayings(Garden garden, Harvest harvest) {
            this.garden = garden;
            this.harvest = harvest;
        }

        int howMany() {
            return many;
        }

        int plantsInAll() {
            return inAll;
        }

        int plantsInAny() {
            return inAny;
        }

        /** The first PLANT of the first WAY; NONE for a SAYING of no WORDS. */
        int firstPlant() {
            return first;
        }

        Strip soonestWay() {
            return bestWay;
        }

        void hear(Strip saying) {
            words.become(saying);
        }

        void countWays() {
            harvest.begin();
            many = 0;
            inAll = 0;
            inAny = 0;
            first = NONE;
            goThrough(0, 0, NONE);
        }

        private void goThrough(int k, int bits, int head) {
            if (k >= words.size()) {
                first = many == 0 ? head : first;
                inAll = many == 0 ? bits : inAll & bits;
                inAny |= bits;
                many++;
                return;
            }
            for (int i = 0; i < PLANTS_MOST; i++) {
                if (harvest.isOpen(i) && harvest.says(i) == words.get(k)) {
                    harvest.take(i);
                    goThrough(k + 1, bits | 1 << i, k == 0 ? i : head);
                    harvest.giveBack(i);
                }
            }
        }

        int seekSoonest() {
            way.begin(words.size(), 0);
            used.begin(PLANTS_MOST, 0);
            bestWay.lose();
            fewest = NONE;
            setDues();
            seek(0, 0);
            return fewest;
        }

        private void setDues() {
            dues.begin(PLANTS_MOST * SAYING_MOST, NONE);
            for (int i = 0; i < garden.size(); i++) {
                Plant plant = garden.plantOf(i);
                for (int n = 0; plant != null && n < SAYING_MOST; n++) {
                    int due = plant.daysTo(plant.picked + n, plant.wet, garden.today(), SOONEST_MOST);
                    dues.set(i * SAYING_MOST + n, due);
                }
            }
        }

        /** The WAYS go by lesser numbers first, so only one that is truly sooner takes the place of another. */
        private void seek(int k, int days) {
            if (fewest != NONE && days >= fewest) {
                return;
            }
            if (k >= words.size()) {
                fewest = days;
                bestWay.become(way);
                return;
            }
            for (int i = 0; i < garden.size(); i++) {
                int then = daysToSay(i, words.get(k), days);
                if (then != NONE) {
                    way.set(k, i);
                    used.set(i, used.get(i) + 1);
                    seek(k + 1, then);
                    used.set(i, used.get(i) - 1);
                }
            }
        }

        private int daysToSay(int i, int word, int days) {
            Plant plant = garden.plantOf(i);
            int due = used.get(i) < SAYING_MOST ? dues.get(i * SAYING_MOST + used.get(i)) : NONE;
            if (plant == null || due == NONE || plant.says(plant.picked + used.get(i)) != word) {
                return NONE;
            }
            int then = Math.max(days, due);
            if (!plant.mayBePicked(garden.today() + then)) {
                then++;
            }
            return then > SOONEST_MOST ? NONE : then;
        }
    }

    /** Which KINDS and SEEDS fit what PODS have said. */
    private static final class Clues {
        private final int[] fitting = new int[KINDS_MOST];
        private final int[] parts = new int[WORDS];

        void hear(Strip pairs) {
            for (int kind = 0; kind < fitting.length; kind++) {
                fitting[kind] = 0;
                for (int seed = 0; seed < SEEDS; seed++) {
                    fitting[kind] |= fits(pairs, kind, seed) ? 1 << seed : 0;
                }
            }
        }

        private static boolean fits(Strip pairs, int kind, int seed) {
            if (pairs == null) {
                return false;
            }
            for (int i = 0; i < pairs.size(); i += 2) {
                if (Kind.says(kind, seed, pairs.get(i)) != pairs.get(i + 1)) {
                    return false;
                }
            }
            return true;
        }

        int seedsOf(int kind) {
            return kind >= 0 && kind < fitting.length ? fitting[kind] : 0;
        }

        private boolean canBe(int kind, int seed) {
            return (seedsOf(kind) >> seed & 1) == 1;
        }

        int kindsBy(int seed) {
            int bits = 0;
            for (int kind = 0; kind < KINDS_MOST; kind++) {
                bits |= canBe(kind, seed) ? 1 << kind : 0;
            }
            return bits;
        }

        int wordsIn(int pod) {
            int bits = 0;
            for (int kind = 0; kind < KINDS_MOST; kind++) {
                for (int seed = 0; seed < SEEDS; seed++) {
                    bits |= canBe(kind, seed) ? 1 << Kind.says(kind, seed, pod) : 0;
                }
            }
            return bits;
        }

        int greatestPart(int pod) {
            for (int word = 0; word < parts.length; word++) {
                parts[word] = 0;
            }
            int greatest = 0;
            for (int kind = 0; kind < KINDS_MOST; kind++) {
                for (int seed = 0; seed < SEEDS; seed++) {
                    int word = Kind.says(kind, seed, pod);
                    if (canBe(kind, seed) && word >= 0 && word < parts.length) {
                        parts[word]++;
                        greatest = Math.max(greatest, parts[word]);
                    }
                }
            }
            return greatest;
        }

        /** NONE if nothing fits. */
        int bestPod() {
            int best = NONE;
            int least = 0;
            for (int pod = 0; pod < PODS_MOST; pod++) {
                int part = greatestPart(pod);
                if (part > 0 && (best == NONE || part < least)) {
                    best = pod;
                    least = part;
                }
            }
            return best;
        }
    }

    /** A number of two, in lowest terms. */
    private static final class Chance {
        private final long[] left = new long[PLANTS_MOST + 1];
        private long top = 0;
        private long bottom = 1;

        void tell(long up, long low) {
            long a = up;
            long b = low;
            // Euclid on longs needs under a hundred steps
            for (int step = 0; step < 200 && b != 0; step++) {
                long rest = a % b;
                a = b;
                b = rest;
            }
            top = a == 0 ? up : up / a;
            bottom = a == 0 ? low : low / a;
        }

        /** The chance that v or more are left, if slugs take each by p of 12. */
        void tellLeft(Harvest harvest, int v, int p) {
            int pods = harvest.sayingAtLeast(0);
            for (int j = 0; j < left.length; j++) {
                left[j] = j == 0 ? 1 : 0;
            }
            for (int pod = 0; pod < pods; pod++) {
                for (int j = left.length - 1; j >= 0; j--) {
                    left[j] = left[j] * p + (j > 0 ? left[j - 1] * (SLUGS_OF - p) : 0);
                }
            }
            long sum = 0;
            for (int j = Math.max(v, 0); j < left.length; j++) {
                sum += left[j];
            }
            tell(sum, power(SLUGS_OF, pods));
        }

        /** The mean of the greatest is the chances that it is at least 1, at least 2, .. together. */
        void tellGreatest(Harvest harvest, int p) {
            int pods = harvest.sayingAtLeast(0);
            long all = power(SLUGS_OF, pods);
            long sum = 0;
            for (int word = 1; word < WORDS; word++) {
                int such = harvest.sayingAtLeast(word);
                sum += all - power(p, such) * power(SLUGS_OF, pods - such);
            }
            tell(sum, all);
        }

        private static long power(long base, int times) {
            long result = 1;
            for (int n = 0; n < times; n++) {
                result *= base;
            }
            return result;
        }
    }
}
