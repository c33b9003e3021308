/** The sentences of promises 25 to 32: sayings, and what is in a pod. */
public final class BoundsOfSayings extends Bounds {
    private static int soonest(BeanVoices x, int... words) {
        lay(x, 0, words);
        return x.soonest(0, 1);
    }

    private static void waysAre(BeanVoices x, long many, int inAll, int... words) {
        lay(x, 0, words);
        ratio(x, x.ways(0), many, 1);
        due(x.asked(), inAll);
    }

    private static void noneAre(BeanVoices x, int none, int first, int... words) {
        lay(x, 0, words);
        answers(x, x.none(0), none, first);
    }

    /** What a call asks of the saying in ROW r. */
    private static void badRows(CallBy ask) {
        bad(new BeanVoices(), NO_ROWS, ask);
        bad(sown("b010", 1), NO_ROWS, ask);
    }

    private static void stateWithoutPlants(CallBy ask) {
        BeanVoices x = new BeanVoices();
        refuses(x, STATE, () -> ask.on(x, 0), () -> ask.on(x, 5));
        lay(x, 0, 10);
        x.row(1, 6);
        x.row(2, 0);
        refuses(x, STATE, () -> ask.on(x, 0), () -> ask.on(x, 1), () -> ask.on(x, 2));
    }

    private static void missingRows(CallBy ask) {
        BeanVoices x = sown("b010", 1);
        finds(x, NOTHING, () -> ask.on(x, 0), () -> ask.on(x, 5));
        x.row(0, 1);
        x.tear(0);
        finds(x, NOTHING, () -> ask.on(x, 0));
    }

    private static void moreThanFive(CallBy ask) {
        BeanVoices x = sown("b010 r010 s010 s010 s010 s010", 9);
        x.row(0, 6);
        lay(x, 1, 0, 1, 2, 3, 4, 99);
        x.row(2, 40);
        finds(x, SIZE, () -> ask.on(x, 0), () -> ask.on(x, 1), () -> ask.on(x, 2));
        lay(x, 0, 0, 1, 2, 3, 4);
        due(ask.on(x, 0) >= 0 ? 1 : 0, 1);
    }

    private static void noWords(CallBy ask) {
        BeanVoices x = sown("b010", 9);
        lay(x, 0, 10);
        lay(x, 1, -1);
        lay(x, 2, 0, 1, 2, 3, 10);
        lay(x, 3, MOST, 0);
        lay(x, 4, 5, LEAST);
        finds(x, UNLIKE, () -> ask.on(x, 0), () -> ask.on(x, 1), () -> ask.on(x, 2), () -> ask.on(x, 3),
                () -> ask.on(x, 4));
    }

    // ---- 25 soonest

    @Bound(at = "25", says = "In how many DAYS (0 .. 60) a SAYING can be whole first")
    static void soonestTodayAndInSixty() {
        due(soonest(sown("b010", 5), 0, 1, 2, 3, 4), 0);
        due(soonest(sown("b010", 4), 0, 1, 2, 3, 4), 1);
        due(soonest(sown("b990"), 0, 1, 2, 3, 4), 54);
        due(soonest(sown("d690"), 0, 1, 2), 60);
        due(soonest(sown("d790"), 0, 1, 2), NONE);
        due(soonest(sown("d790", 1), 0, 1, 2), 60);
        due(soonest(sown("d790", 40), 0, 1, 2), 21);
        due(soonest(sown("d990"), 0, 1, 2), NONE);
        due(soonest(sown("d990", 12), 0, 1, 2, 3), NONE);
        due(soonest(sown("d990", 21), 0, 1, 2, 3), 60);
        due(soonest(sown("d690 o015"), 0, 1, 2, 5), 60);
        due(soonest(sown("d590 o015"), 0, 1, 2, 5), 60);
        due(soonest(sown("d790 o015", 1), 0, 1, 2, 5), NONE);
    }

    @Bound(at = "25", says = "(each WORD as soon as it can be behind the one ahead, DAYS passing between as wanted)")
    static void soonestWithDaysBetween() {
        BeanVoices x = sown("b510 b011");
        due(soonest(x, 0, 1), 6);
        rowIs(x, 1, 0, 1);
        due(soonest(x, 1, 0), 6);
        rowIs(x, 1, 1, 0);
        due(soonest(x, 0, 1, 1), 7);
        rowIs(x, 1, 0, 0, 1);
        BeanVoices y = sown("o010 b513");
        due(soonest(y, 0, 2, 4), 4);
        due(soonest(y, 0, 2, 4, 6), 4);
        due(soonest(y, 3, 0), 6);
        due(soonest(y, 3, 4, 0), 8);
        rowIs(y, 1, 1, 1, 0);
        y.day();
        due(soonest(y, 0), 1);
        due(soonest(y, 3, 4, 0), 7);
    }

    @Bound(at = "25", says = "In how many DAYS (0 .. 60) a SAYING can be whole first")
    static void soonestOfSixPlants() {
        BeanVoices x = sown("b991 b992 b993 b994 b995 b010");
        due(soonest(x, 0, 1, 2, 3, 4), 5);
        rowIs(x, 1, 5, 5, 5, 5, 5);
        // of the first one, too, the fifth pod has a day of its own
        BeanVoices z = sown("b010 b992 b993 b994 b995 b996");
        due(soonest(z, 0, 1, 2, 3, 4), 5);
        rowIs(z, 1, 0, 0, 0, 0, 0);
        BeanVoices y = sown("b990 b990 b015 b020 b039 b042");
        due(soonest(y, 5, 0, 9, 2), 4);
        rowIs(y, 1, 2, 3, 4, 5);
        due(soonest(y, 2, 9, 0, 5, 6), 4);
        rowIs(y, 1, 5, 4, 3, 2, 2);
        due(soonest(y, 2, 3), 8);
        rowIs(y, 1, 5, 5);
        due(soonest(y, 9, 0), 3);
        rowIs(y, 1, 4, 3);
        due(soonest(y, 0, 0), 18);
        rowIs(y, 1, 0, 1);
    }

    @Bound(at = "25", says = "the first WAY by which it is so soon")
    static void soonestByTheFirstWay() {
        BeanVoices x = sown("b210 b110 b010");
        due(soonest(x, 0), 1);
        rowIs(x, 1, 2);
        due(soonest(x, 0, 0), 2);
        rowIs(x, 1, 1, 2);
        due(soonest(x, 0, 0, 0), 3);
        rowIs(x, 1, 0, 1, 2);
        // the second word keeps it waiting, so the slower first plant is as soon as the quicker one
        BeanVoices y = sown("b020 b010 b039");
        due(soonest(y, 0, 9), 3);
        rowIs(y, 1, 0, 2);
        days(y, 3);
        due(soonest(y, 0, 0, 9), 0);
        rowIs(y, 1, 0, 1, 2);
    }

    @Bound(at = "25", says = "comes to another ROW (perhaps the same; anew).")
    static void soonestIntoRows() {
        BeanVoices x = sown("b010 b015", 3);
        lay(x, 0, 5, 0);
        due(x.soonest(0, 5), 0);
        rowIs(x, 5, 1, 0);
        rowIs(x, 0, 5, 0);
        x.row(4, 40);
        due(x.soonest(0, 4), 0);
        rowIs(x, 4, 1, 0);
        x.row(3, 0);
        due(x.soonest(0, 3), 0);
        rowIs(x, 3, 1, 0);
        due(x.soonest(0, 0), 0);
        rowIs(x, 0, 1, 0);
        x.row(2, 0);
        due(x.soonest(2, 2), 0);
        rowIs(x, 2);
        due(x.soonest(2, 4), 0);
        rowIs(x, 4);
        due(x.count(8), 5);
    }

    @Bound(at = "25", says = "NONE: in none.")
    static void soonestNever() {
        BeanVoices x = sown("b010 d015");
        lay(x, 1, 7, 8);
        due(soonest(x, 1), NONE);
        due(soonest(x, 0, 2), NONE);
        due(soonest(x, 0, 0), NONE);
        due(soonest(x, 9), NONE);
        rowIs(x, 1, 7, 8);
        x.goat(0);
        due(soonest(x, 0), NONE);
        due(soonest(x, 5, 6, 7, 8), 8);
        due(soonest(x, 5, 6, 7, 8, 9), NONE);
        lay(x, 0, 9);
        due(x.soonest(0, 0), NONE);
        rowIs(x, 0, 9);
        x.tear(5);
        due(x.soonest(0, 5), NONE);
        finds(x, NOTHING, () -> x.at(5, 0));
        BeanVoices y = sown("b010", 9);
        picks(y, 0, 0, 1, 2, 3, 4, 5, 6);
        due(soonest(y, 7, 8), 0);
        due(soonest(y, 7, 8, 9), NONE);
    }

    @Bound(at = "25", says = "BAD;")
    static void soonestOfNoRows() {
        badRows((o, r) -> o.soonest(r, 0));
        badRows((o, r) -> o.soonest(0, r));
        BeanVoices x = sown("b010", 1);
        lay(x, 0, 0);
        bad(x, NO_ROWS, (o, r) -> o.soonest(0, r));
    }

    @Bound(at = "25", says = "STATE;")
    static void soonestWithoutPlants() {
        stateWithoutPlants((o, r) -> o.soonest(r, 1));
    }

    @Bound(at = "25", says = "NOTHING;")
    static void soonestOfMissing() {
        missingRows((o, r) -> o.soonest(r, 1));
        missingRows((o, r) -> o.soonest(r, r));
    }

    @Bound(at = "25", says = "SIZE;")
    static void soonestOfTooMany() {
        moreThanFive((o, r) -> o.soonest(r, r));
    }

    @Bound(at = "25", says = "UNLIKE.")
    static void soonestOfNoWords() {
        noWords((o, r) -> o.soonest(r, r));
    }

    // ---- 26 ways

    @Bound(at = "26", says = "How many WAYS of a SAYING there are today (no DAY passing), told by upper() (lower() is 1)")
    static void waysFromNoneToMost() {
        BeanVoices x = sown("s010 s010 s010 s010 s010 s010", 1);
        waysAre(x, 0, 0, 0);
        x.day();
        waysAre(x, 6, 0, 0);
        waysAre(x, 30, 0, 0, 0);
        waysAre(x, 720, 0, 0, 0, 0, 0, 0);
        days(x, 2);
        waysAre(x, 36, 0, 0, 0);
        // with none twice 720, with one twice 3600, with two twice 1800
        waysAre(x, 6120, 0, 0, 0, 0, 0, 0);
        waysAre(x, 0, 0, 1);
        BeanVoices y = sown("o010", 3);
        waysAre(y, 0, 0, 0);
        y.day();
        waysAre(y, 1, 1, 0);
        waysAre(y, 1, 1, 0, 2, 4, 6);
        waysAre(y, 0, 0, 0, 2, 4, 6, 8);
    }

    @Bound(at = "26", says = "PLANTS in all of these by asked() (bits; 0: there are none): 1.")
    static void waysWithPlantsInAll() {
        BeanVoices x = sown("b010 b010 b015 b019 b018 b016", 2);
        waysAre(x, 2, 0, 0);
        waysAre(x, 2, 0b000011, 0, 0);
        waysAre(x, 2, 0b000100, 5, 0);
        waysAre(x, 8, 0b000111, 5, 6, 0, 0, 1);
        waysAre(x, 2, 0b011100, 5, 9, 8, 6);
        waysAre(x, 1, 0b111100, 5, 9, 8, 6, 7);
        waysAre(x, 1, 0b100000, 6, 7);
        waysAre(x, 0, 0, 5, 0, 4);
        waysAre(x, 1, 0);
    }

    @Bound(at = "26", says = "there are none): 1.")
    static void waysOfNone() {
        BeanVoices x = sown("b010 b011", 2);
        waysAre(x, 1, 0b11, 0, 1, 2);
        waysAre(x, 0, 0, 9);
        BeanVoices y = sown("b010", 2);
        y.goat(0);
        waysAre(y, 0, 0, 0);
        waysAre(y, 1, 0);
    }

    @Bound(at = "26", says = "BAD;")
    static void waysOfNoRow() {
        badRows((o, r) -> o.ways(r));
    }

    @Bound(at = "26", says = "STATE;")
    static void waysWithoutPlants() {
        stateWithoutPlants((o, r) -> o.ways(r));
    }

    @Bound(at = "26", says = "NOTHING;")
    static void waysOfMissing() {
        missingRows((o, r) -> o.ways(r));
    }

    @Bound(at = "26", says = "SIZE;")
    static void waysOfTooMany() {
        moreThanFive((o, r) -> o.ways(r));
    }

    @Bound(at = "26", says = "UNLIKE.")
    static void waysOfNoWords() {
        noWords((o, r) -> o.ways(r));
    }

    // ---- 27 none

    @Bound(at = "27", says = "PLANTS (bits) that are in none of these WAYS;")
    static void plantsInNone() {
        BeanVoices x = sown("b010 b010 b015 b019 b018 s016", 2);
        noneAre(x, 0b111100, 0, 0);
        noneAre(x, 0b111000, 2, 5, 0);
        noneAre(x, 0b111111, NONE);
        noneAre(x, 0b000011, 2, 5, 9, 8, 6);
        noneAre(x, 0b100000, 0, 0, 0, 5, 9, 8);
        x.goat(0);
        noneAre(x, 0b111101, 1, 0);
        BeanVoices y = sown("s010", 2);
        noneAre(y, 0, 0, 0);
    }

    @Bound(at = "27", says = "the first PLANT of the first WAY by asked() (NONE: a row of none).")
    static void firstPlantOfTheFirstWay() {
        BeanVoices x = sown("b015 b010 r010 b010", 2);
        noneAre(x, 0b0001, 1, 0);
        // by the runner alone, though others can begin
        noneAre(x, 0b1011, 2, 0, 3);
        noneAre(x, 0b0000, 0, 5, 0);
        noneAre(x, 0b1111, NONE);
        x.goat(1);
        noneAre(x, 0b0011, 2, 0);
    }

    @Bound(at = "27", says = "BAD;")
    static void noneOfNoRow() {
        badRows((o, r) -> o.none(r));
    }

    @Bound(at = "27", says = "STATE;")
    static void noneWithoutPlants() {
        stateWithoutPlants((o, r) -> o.none(r));
    }

    @Bound(at = "27", says = "NOTHING;")
    static void noneOfMissing() {
        missingRows((o, r) -> o.none(r));
    }

    @Bound(at = "27", says = "SIZE;")
    static void noneOfTooMany() {
        moreThanFive((o, r) -> o.none(r));
    }

    @Bound(at = "27", says = "UNLIKE;")
    static void noneOfNoWords() {
        noWords((o, r) -> o.none(r));
    }

    @Bound(at = "27", says = "NOUGHT: there is no WAY.")
    static void noneWithoutWays() {
        BeanVoices x = sown("b010 o015", 1);
        x.plant(0, 2);
        lay(x, 0, 1);
        lay(x, 1, 0, 1);
        lay(x, 2, 5);
        lay(x, 3, 0);
        x.plant(0, 2);
        finds(x, NOUGHT, () -> x.none(0), () -> x.none(1), () -> x.none(2));
        due(x.asked(), 1);
        answers(x, x.none(3), 2, 0);
        x.goat(0);
        finds(x, NOUGHT, () -> x.none(3));
    }

    // ---- 28 often

    @Bound(at = "28", says = "How often running a WORD (0 .. 9) can be said today")
    static void oftenFromNoneToTwelve() {
        BeanVoices x = sown("s019 s019 s019 s019 s019 s019", 1);
        answers(x, x.often(9), 0, 0);
        x.day();
        answers(x, x.often(9), 6, 6);
        answers(x, x.often(0), 0, 0);
        days(x, 2);
        answers(x, x.often(9), 12, 6);
        days(x, 4);
        answers(x, x.often(9), 12, 6);
        answers(x, x.often(0), 0, 0);
        x.pick(0);
        answers(x, x.often(9), 11, 6);
        x.pick(0);
        answers(x, x.often(9), 10, 5);
        answers(x, x.often(0), 2, 1);
    }

    @Bound(at = "28", says = "(of each PLANT next POD by next POD, as long as they can be PICKED and say it)")
    static void oftenAsLongAsTheyCan() {
        BeanVoices x = sown("b010 o010 r010 s010 d010", 3);
        answers(x, x.often(0), 4, 4);
        x.day();
        answers(x, x.often(0), 6, 5);
        x.goat(3);
        answers(x, x.often(0), 4, 4);
        picks(x, 0, 0, 1, 2, 3);
        answers(x, x.often(0), 3, 3);
        answers(x, x.often(4), 0, 0);
        x.day();
        answers(x, x.often(4), 1, 1);
    }

    @Bound(at = "28", says = "how many PLANTS say it so by asked().")
    static void oftenByHowMany() {
        BeanVoices x = sown("s010 s010 b010 b019", 4);
        answers(x, x.often(0), 5, 3);
        answers(x, x.often(9), 1, 1);
        answers(x, x.often(5), 0, 0);
    }

    @Bound(at = "28", says = "BAD;")
    static void oftenOfNoWord() {
        bad(sown("b010", 1), new int[] {-1, 10, LEAST, MOST}, (o, word) -> o.often(word));
        bad(new BeanVoices(), new int[] {-1, 10, LEAST, MOST}, (o, word) -> o.often(word));
    }

    @Bound(at = "28", says = "STATE: no PLANTS.")
    static void oftenWithoutPlants() {
        BeanVoices x = new BeanVoices();
        refuses(x, STATE, () -> x.often(0), () -> x.often(9));
    }

    // ---- what the calls of pods refuse alike

    private interface Clue {
        int on(BeanVoices x, int i, int r);
    }

    private static void badClues(Clue ask) {
        BeanVoices x = sown("b010 r010");
        x.row(0, 0);
        bad(x, NO_PLANTS, (o, i) -> ask.on(o, i, 0));
        bad(x, NO_ROWS, (o, r) -> ask.on(o, 0, r));
        bad(x, NO_PLANTS, (o, i) -> ask.on(o, i, 1));
        bad(new BeanVoices(), new int[] {0}, (o, i) -> ask.on(o, i, 0));
    }

    private static void missingClues(Clue ask) {
        BeanVoices x = sown("b010 r010");
        finds(x, NOTHING, () -> ask.on(x, 0, 0), () -> ask.on(x, 1, 5));
        x.row(0, 2);
        x.tear(0);
        finds(x, NOTHING, () -> ask.on(x, 0, 0));
    }

    private static void notByPairs(Clue ask) {
        BeanVoices x = sown("b010 r010");
        x.row(0, 1);
        x.row(1, 39);
        lay(x, 2, 0, 0, 0);
        finds(x, SIZE, () -> ask.on(x, 0, 0), () -> ask.on(x, 0, 1), () -> ask.on(x, 1, 2));
        x.row(0, 40);
        x.row(1, 0);
        due(ask.on(x, 0, 0) >= 0 ? 1 : 0, 1);
        due(ask.on(x, 0, 1) >= 0 ? 1 : 0, 1);
    }

    private static void noPodsOrWords(Clue ask) {
        int[][] pairs = {{9, 0}, {-1, 0}, {0, 10}, {0, -1}, {0, 0, 9, 0}, {0, 0, 0, 10}, {LEAST, 0}, {0, MOST}, {0, 0, MOST, 0}};
        for (int[] pair : pairs) {
            BeanVoices x = sown("b010 r010");
            lay(x, 0, pair);
            finds(x, UNLIKE, () -> ask.on(x, 0, 0), () -> ask.on(x, 1, 0));
        }
        BeanVoices y = sown("b010 r010");
        lay(y, 0, 8, 8, 0, 0);
        due(ask.on(y, 0, 0) >= 0 ? 1 : 0, 1);
        lay(y, 0, 0, 9);
        due(ask.on(y, 0, 0) >= 0 ? 1 : 0, 1);
    }

    private static void cluesInOrder(Clue ask) {
        BeanVoices x = sown("b010 r010");
        refuses(x, BAD, () -> ask.on(x, 2, 0), () -> ask.on(x, 0, 6));
        lay(x, 0, 9, 10, 9);
        refuses(x, BAD, () -> ask.on(x, 2, 0), () -> ask.on(x, -1, 0));
        finds(x, SIZE, () -> ask.on(x, 0, 0));
        lay(x, 0, 9, 10);
        refuses(x, BAD, () -> ask.on(x, 2, 0));
        finds(x, UNLIKE, () -> ask.on(x, 0, 0));
    }

    // ---- 29 seeds

    @Bound(at = "29", says = "SEEDS (bits 0 .. 9) that a PLANT of its KIND can have by these.")
    static void seedsByPods() {
        BeanVoices x = sown("b019 r019 d019 o019 c019 s019");
        lay(x, 0, 8, 0);
        int[] seeds = {2, 6, 2, 4, 5, 6};
        for (int i = 0; i < 6; i++) {
            due(x.seeds(i, 0), 1 << seeds[i]);
        }
        lay(x, 0, 0, 9);
        due(x.seeds(0, 0), 1 << 9);
        due(x.seeds(4, 0), 1 << 8);
        lay(x, 0, 0, 0);
        due(x.seeds(0, 0), 1);
        due(x.seeds(4, 0), 1 << 9);
        lay(x, 0, 0, 0, 0, 1);
        due(x.seeds(0, 0), 0);
        lay(x, 0, 0, 0, 1, 1, 1, 1);
        due(x.seeds(0, 0), 1);
        due(x.seeds(1, 0), 0);
        x.row(0, 0);
        for (int i = 0; i < 6; i++) {
            due(x.seeds(i, 0), 0b1111111111);
        }
        x.row(0, 40);
        due(x.seeds(0, 0), 1);
    }

    @Bound(at = "29", says = "BAD;")
    static void seedsBad() {
        badClues((x, i, r) -> x.seeds(i, r));
    }

    @Bound(at = "29", says = "NOTHING;")
    static void seedsMissing() {
        missingClues((x, i, r) -> x.seeds(i, r));
    }

    @Bound(at = "29", says = "SIZE: not by pairs;")
    static void seedsNotByPairs() {
        notByPairs((x, i, r) -> x.seeds(i, r));
    }

    @Bound(at = "29", says = "UNLIKE: a number that is none.")
    static void seedsUnlike() {
        noPodsOrWords((x, i, r) -> x.seeds(i, r));
    }

    @Bound(at = "29", says = "(In this order.)")
    static void seedsInOrder() {
        cluesInOrder((x, i, r) -> x.seeds(i, r));
    }

    // ---- 30 kinds

    @Bound(at = "30", says = "KINDS (bits) that it can be of by these, SEED as it is.")
    static void kindsByPods() {
        BeanVoices x = sown("b010 s019");
        int[][] pairs = {{0, 0}, {0, 1}, {8, 8}, {8, 4}, {8, 6}, {8, 5}, {8, 0}, {5, 5}, {0, 0, 0, 1}, {0, 0, 8, 4, 1, 3}, {}};
        // of pod 8 a runner says 4 with seed 0, and so does a stutter
        int[] kinds = {0b101111, 0b010000, 0b000101, 0b100010, 0b001000, 0b010000, 0, 0b000111, 0, 0b000010, 0b111111};
        for (int n = 0; n < pairs.length; n++) {
            lay(x, 0, pairs[n]);
            due(x.kinds(0, 0), kinds[n]);
        }
        lay(x, 0, 0, 9);
        due(x.kinds(1, 0), 0b101111);
        lay(x, 0, 0, 0);
        due(x.kinds(1, 0), 0b010000);
    }

    @Bound(at = "30", says = "BAD;")
    static void kindsBad() {
        badClues((x, i, r) -> x.kinds(i, r));
    }

    @Bound(at = "30", says = "NOTHING;")
    static void kindsMissing() {
        missingClues((x, i, r) -> x.kinds(i, r));
    }

    @Bound(at = "30", says = "SIZE;")
    static void kindsNotByPairs() {
        notByPairs((x, i, r) -> x.kinds(i, r));
    }

    @Bound(at = "30", says = "UNLIKE.")
    static void kindsUnlike() {
        noPodsOrWords((x, i, r) -> x.kinds(i, r));
    }

    @Bound(at = "30", says = "(In this order.)")
    static void kindsInOrder() {
        cluesInOrder((x, i, r) -> x.kinds(i, r));
    }

    // ---- 31 guess

    @Bound(at = "31", says = "WORDS (bits) that POD k can say, if KIND and SEED both can be any that fit these.")
    static void guessByPods() {
        BeanVoices x = sown("b010 s019");
        x.row(0, 0);
        due(x.guess(0, 0, 0), 0b1111111111);
        due(x.guess(1, 8, 0), 0b1111111111);
        lay(x, 0, 0, 9);
        due(x.guess(0, 0, 0), 1 << 9);
        // bean, dwarf 0; runner, scarlet 2; broad 1; stutter 9
        due(x.guess(0, 1, 0), 0b1000000111);
        due(x.guess(1, 1, 0), 0b1000000111);
        // bean, dwarf 7; runner, scarlet 3; broad 5; stutter 3
        due(x.guess(0, 8, 0), 0b0010101000);
        lay(x, 0, 0, 9, 8, 3);
        due(x.guess(0, 1, 0), 0b1000000100);
        lay(x, 0, 0, 9, 0, 8);
        due(x.guess(0, 1, 0), 0);
        // seed 0 of all but the scarlet, whose seed is 9
        lay(x, 0, 0, 0);
        due(x.guess(0, 1, 0), 0b0000001111);
        due(x.guess(0, 8, 0), 0b0101010000);
    }

    @Bound(at = "31", says = "BAD;")
    static void guessBad() {
        badClues((x, i, r) -> x.guess(i, 8, r));
        BeanVoices x = sown("b010 r010");
        x.row(0, 0);
        bad(x, NO_PODS, (o, k) -> o.guess(0, k, 0));
        bad(x, NO_PODS, (o, k) -> o.guess(1, k, 1));
    }

    @Bound(at = "31", says = "NOTHING;")
    static void guessMissing() {
        missingClues((x, i, r) -> x.guess(i, 0, r));
    }

    @Bound(at = "31", says = "SIZE;")
    static void guessNotByPairs() {
        notByPairs((x, i, r) -> x.guess(i, 0, r));
    }

    @Bound(at = "31", says = "UNLIKE.")
    static void guessUnlike() {
        noPodsOrWords((x, i, r) -> x.guess(i, 0, r));
    }

    @Bound(at = "31", says = "(In this order.)")
    static void guessInOrder() {
        cluesInOrder((x, i, r) -> x.guess(i, 8, r));
    }

    // ---- 32 listen

    @Bound(at = "32", says = "The POD (0 .. 8) that tells most of KINDS and SEEDS (pairs that fit these) apart: the greatest part"
            + " of those that say alike is least (the first); that part by asked().")
    static void listenToTheFirstBest() {
        BeanVoices x = sown("b010 s019");
        // the last: runner and scarlet, whose pods all say alike, and a stutter
        int[][] pairs = {{}, {0, 3}, {1, 9}, {0, 3, 1, 4}, {0, 3, 5, 8}, {0, 3, 1, 3}, {0, 0, 1, 1}, {0, 3, 8, 7}};
        int[] pods = {0, 1, 0, 0, 1, 0, 0, 1};
        int[] parts = {6, 2, 2, 2, 2, 1, 2, 2};
        for (int n = 0; n < pairs.length; n++) {
            lay(x, 0, pairs[n]);
            answers(x, x.listen(0, 0), pods[n], parts[n]);
            answers(x, x.listen(1, 0), pods[n], parts[n]);
        }
    }

    @Bound(at = "32", says = "NONE: there is no such pair.")
    static void listenToNone() {
        BeanVoices x = sown("b010 s019");
        lay(x, 0, 0, 3);
        x.listen(0, 0);
        lay(x, 1, 0, 3, 0, 4);
        lay(x, 2, 0, 3, 1, 9);
        x.listen(0, 0);
        due(x.listen(0, 1), NONE);
        due(x.listen(1, 2), NONE);
        due(x.asked(), 2);
        due(x.finding(), 0);
    }

    @Bound(at = "32", says = "BAD;")
    static void listenBad() {
        badClues((x, i, r) -> x.listen(i, r));
    }

    @Bound(at = "32", says = "NOTHING;")
    static void listenMissing() {
        missingClues((x, i, r) -> x.listen(i, r));
    }

    @Bound(at = "32", says = "SIZE;")
    static void listenNotByPairs() {
        notByPairs((x, i, r) -> x.listen(i, r));
    }

    @Bound(at = "32", says = "UNLIKE.")
    static void listenUnlike() {
        noPodsOrWords((x, i, r) -> x.listen(i, r));
    }

    @Bound(at = "32", says = "(In this order.)")
    static void listenInOrder() {
        cluesInOrder((x, i, r) -> x.listen(i, r));
    }

    public static void main(String[] args) {
        runAll(BoundsOfSayings.class);
    }
}
