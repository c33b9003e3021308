/** The sentences of promises 15 to 24: deeds, what is kept, what is ripe. */
public final class BoundsOfDeeds extends Bounds {

    // ---- 15 day

    @Bound(at = "15", says = "A DAY passes: the DAY then.")
    static void fortyDays() {
        BeanVoices x = sown("b010");
        for (int day = 1; day <= 40; day++) {
            due(x.day(), day);
        }
        due(x.count(1), 40);
    }

    @Bound(at = "15", says = "STATE: no PLANTS;")
    static void dayWithoutPlants() {
        BeanVoices x = new BeanVoices();
        refuses(x, STATE, () -> x.day());
        x.text(0, 60);
        x.garden(0);
        refuses(x, STATE, () -> x.day());
    }

    @Bound(at = "15", says = "STATE: no PLANTS;")
    static void dayWithEatenPlants() {
        BeanVoices x = sown("b010");
        x.goat(0);
        due(x.day(), 1);
    }

    @Bound(at = "15", says = "FULL: 40 DEEDS.")
    static void dayNumberFortyOne() {
        BeanVoices x = sown("b010", 39);
        due(x.day(), 40);
        refuses(x, FULL, () -> x.day());
        x.undo(39);
        due(x.day(), 40);
        refuses(x, FULL, () -> x.day());
        BeanVoices y = sown("b010", 1);
        waters(y, 0, 9);
        days(y, 30);
        refuses(y, FULL, () -> y.day());
        due(y.count(1), 31);
    }

    @Bound(at = "15", says = "(FULL last.)")
    static void dayNeverBothFullAndBare() {
        BeanVoices x = new BeanVoices();
        for (int n = 0; n < 41; n++) {
            due(x.day(), STATE);
        }
    }

    // ---- 16 water

    @Bound(at = "16", says = "A PLANT has 1 more of WATER: how much then.")
    static void waterOfEachPlant() {
        BeanVoices x = sown("b010 b010 b010 b010 b010 b010");
        for (int i = 0; i < 6; i++) {
            due(x.water(i), 1);
            due(x.count(4), i + 1);
        }
        due(x.water(5), 2);
        plantIs(x, 5, 4, 2);
        plantIs(x, 4, 4, 1);
    }

    @Bound(at = "16", says = "BAD;")
    static void waterOfNoPlant() {
        bad(sown("b010 b010"), NO_PLANTS, (o, i) -> o.water(i));
        bad(sown("b010 b010", 40), NO_PLANTS, (o, i) -> o.water(i));
        bad(new BeanVoices(), new int[] {0}, (o, i) -> o.water(i));
    }

    @Bound(at = "16", says = "STATE: it has 9")
    static void waterNumberTen() {
        BeanVoices x = sown("b010 b010");
        waters(x, 0, 8);
        due(x.water(0), 9);
        refuses(x, STATE, () -> x.water(0));
        due(x.water(1), 1);
        x.undo(8);
        due(x.water(0), 9);
        refuses(x, STATE, () -> x.water(0));
    }

    @Bound(at = "16", says = "or was eaten;")
    static void waterOfAnEatenOne() {
        BeanVoices x = sown("b010 b010");
        x.goat(0);
        refuses(x, STATE, () -> x.water(0));
        due(x.water(1), 1);
        x.undo(0);
        due(x.water(0), 1);
    }

    @Bound(at = "16", says = "FULL.")
    static void waterAsDeedFortyOne() {
        BeanVoices x = sown("b010 b010", 39);
        due(x.water(0), 1);
        refuses(x, FULL, () -> x.water(0), () -> x.water(1));
    }

    @Bound(at = "16", says = "(FULL last.)")
    static void waterFullBehindState() {
        BeanVoices x = sown("b010 b010 b010", 30);
        waters(x, 0, 9);
        x.goat(1);
        refuses(x, STATE, () -> x.water(0), () -> x.water(1));
        refuses(x, FULL, () -> x.water(2));
        refuses(x, BAD, () -> x.water(3));
    }

    // ---- 17 pick

    @Bound(at = "17", says = "The next POD of a PLANT is PICKED: its WORD.")
    static void pickFirstToLast() {
        BeanVoices x = sown("c018 d019", 9);
        picks(x, 0, 9, 2, 5, 8, 1, 4, 7, 0, 3);
        picks(x, 1, 9, 0, 1, 2);
        due(x.count(3), 13);
    }

    @Bound(at = "17", says = "BAD;")
    static void pickOfNoPlant() {
        bad(sown("b010 b010", 1), NO_PLANTS, (o, i) -> o.pick(i));
        bad(sown("b010 b010", 40), NO_PLANTS, (o, i) -> o.pick(i));
        bad(new BeanVoices(), new int[] {0}, (o, i) -> o.pick(i));
    }

    @Bound(at = "17", says = "STATE: it can't be;")
    static void pickOfWhatCantBe() {
        BeanVoices x = sown("b010 o010 d010 b010 r010");
        refuses(x, STATE, () -> x.pick(0), () -> x.pick(1), () -> x.pick(2), () -> x.pick(3), () -> x.pick(4));
        x.day();
        x.goat(3);
        picks(x, 0, 0);
        picks(x, 4, 0, 3);
        refuses(x, STATE, () -> x.pick(0), () -> x.pick(1), () -> x.pick(2), () -> x.pick(3), () -> x.pick(4));
    }

    @Bound(at = "17", says = "STATE: it can't be;")
    static void pickBehindTheLastPod() {
        BeanVoices x = sown("b010 s010", 20);
        picks(x, 0, 0, 1, 2, 3, 4, 5, 6, 7, 8);
        picks(x, 1, 0, 0, 1, 1);
        refuses(x, STATE, () -> x.pick(0), () -> x.pick(1));
    }

    @Bound(at = "17", says = "FULL.")
    static void pickAsDeedFortyOne() {
        BeanVoices x = sown("b010 r010", 39);
        picks(x, 0, 0);
        refuses(x, FULL, () -> x.pick(0), () -> x.pick(1));
    }

    @Bound(at = "17", says = "(FULL last.)")
    static void pickFullBehindState() {
        BeanVoices x = sown("o010 b010 b999 b010", 38);
        x.goat(1);
        x.day();
        refuses(x, STATE, () -> x.pick(0), () -> x.pick(1));
        refuses(x, FULL, () -> x.pick(2), () -> x.pick(3));
        refuses(x, BAD, () -> x.pick(4));
    }

    // ---- 18 goat

    @Bound(at = "18", says = "A goat eats a PLANT: how many are left.")
    static void goatsEatAll() {
        BeanVoices x = sown("b010 r010 d010 o010 c010 s010", 5);
        int[] left = {0b011111, 0b011110, 0b011010, 0b011000, 0b001000, 0};
        int[] plants = {5, 0, 2, 1, 4, 3};
        for (int n = 0; n < 6; n++) {
            due(x.goat(plants[n]), 5 - n);
            due(x.count(5), left[n]);
        }
        answers(x, x.ripe(), 0, 0);
        due(x.count(0), 6);
    }

    @Bound(at = "18", says = "BAD;")
    static void goatOfNoPlant() {
        bad(sown("b010 b010"), NO_PLANTS, (o, i) -> o.goat(i));
        bad(sown("b010 b010", 40), NO_PLANTS, (o, i) -> o.goat(i));
        bad(new BeanVoices(), new int[] {0}, (o, i) -> o.goat(i));
    }

    @Bound(at = "18", says = "STATE: it was eaten;")
    static void goatTwice() {
        BeanVoices x = sown("b010 b010");
        due(x.goat(0), 1);
        refuses(x, STATE, () -> x.goat(0));
        due(x.goat(1), 0);
        refuses(x, STATE, () -> x.goat(0), () -> x.goat(1));
        x.undo(1);
        due(x.goat(1), 0);
    }

    @Bound(at = "18", says = "FULL.")
    static void goatAsDeedFortyOne() {
        BeanVoices x = sown("b010 b010", 39);
        due(x.goat(0), 1);
        refuses(x, FULL, () -> x.goat(1));
    }

    @Bound(at = "18", says = "(FULL last.)")
    static void goatFullBehindState() {
        BeanVoices x = sown("b010 b010", 39);
        x.goat(0);
        refuses(x, STATE, () -> x.goat(0));
        refuses(x, FULL, () -> x.goat(1));
        refuses(x, BAD, () -> x.goat(2));
    }

    // ---- 19 undo

    @Bound(at = "19", says = "DEEDS from number n on are undone: how many.")
    static void undoAllAndNone() {
        BeanVoices x = sown("b010 r010");
        due(x.undo(0), 0);
        days(x, 40);
        due(x.undo(40), 0);
        due(x.count(1), 40);
        due(x.undo(39), 1);
        due(x.count(1), 39);
        due(x.undo(0), 39);
        due(x.count(1), 0);
        due(x.count(2), 0);
        due(x.undo(0), 0);
    }

    @Bound(at = "19", says = "DEEDS from number n on are undone: how many.")
    static void undoEachSort() {
        BeanVoices x = sown("b013 r014");
        x.day();
        x.water(1);
        picks(x, 1, 4);
        x.goat(0);
        picks(x, 1, 7);
        due(x.undo(4), 1);
        counts(x, 2, 1, 4, 1, 1, 2, 4);
        due(x.undo(3), 1);
        counts(x, 2, 1, 3, 1, 1, 3, 4);
        due(x.undo(2), 1);
        counts(x, 2, 1, 2, 0, 1, 3, 10);
        due(x.undo(1), 1);
        counts(x, 2, 1, 1, 0, 0, 3, 10);
        due(x.undo(0), 1);
        counts(x, 2, 0, 0, 0, 0, 3, 10);
        due(x.ripe(), 0);
    }

    @Bound(at = "19", says = "DEEDS from number n on are undone: how many.")
    static void undoLeavesTheRest() {
        BeanVoices x = sown("b013", 2);
        x.keep(1);
        lay(x, 0, 5);
        x.at(0, 0);
        due(x.undo(1), 1);
        counts(x, 1, 1, 1, 0, 0, 1, 10, 0, 1, 1, 1);
        due(x.asked(), 5);
        due(x.on(1), 2);
    }

    @Bound(at = "19", says = "BAD.")
    static void undoOfNoDeed() {
        BeanVoices x = sown("b010", 3);
        bad(x, new int[] {-1, 4, 41, LEAST, MOST}, (o, n) -> o.undo(n));
        due(x.undo(3), 0);
        bad(new BeanVoices(), new int[] {-1, 1}, (o, n) -> o.undo(n));
        due(new BeanVoices().undo(0), 0);
    }

    // ---- 20 keep

    @Bound(at = "20", says = "The GARDEN (as it is, DEEDS) is kept in a place (0 .. 2): how many DEEDS.")
    static void keepInEachPlace() {
        BeanVoices x = sown("b010 b010");
        due(x.keep(0), 0);
        due(x.count(10), 1);
        days(x, 20);
        due(x.keep(1), 20);
        days(x, 20);
        due(x.keep(2), 40);
        due(x.count(10), 3);
        due(x.keep(0), 40);
        due(x.count(10), 3);
        due(x.on(1), 20);
        due(x.count(1), 20);
        due(x.on(0), 40);
        due(x.count(1), 40);
        due(x.on(2), 40);
    }

    @Bound(at = "20", says = "BAD;")
    static void keepInNoPlace() {
        bad(sown("b010 b010", 1), NO_PLACES, (o, k) -> o.keep(k));
        bad(new BeanVoices(), NO_PLACES, (o, k) -> o.keep(k));
    }

    @Bound(at = "20", says = "STATE: no PLANTS.")
    static void keepWithoutPlants() {
        BeanVoices x = new BeanVoices();
        refuses(x, STATE, () -> x.keep(0), () -> x.keep(1), () -> x.keep(2));
        due(x.count(10), 0);
    }

    // ---- 21 on

    @Bound(at = "21", says = "The GARDEN is as it was kept: how many DEEDS.")
    static void onWithAllThatWasDone() {
        BeanVoices x = sown("b013 r014 o015", 3);
        x.water(1);
        picks(x, 1, 4, 7);
        x.goat(0);
        x.keep(2);
        long was = x.digest();
        x.undo(0);
        due(x.on(2), 7);
        due(x.digest(), was);
        due(x.count(6), 7);
        x.day();
        picks(x, 2, 5);
        due(x.on(2), 7);
        due(x.digest(), was);
        due(x.undo(6), 1);
        due(x.count(5), 7);
        due(x.on(2), 7);
        due(x.digest(), was);
    }

    @Bound(at = "21", says = "The GARDEN is as it was kept: how many DEEDS.")
    static void onFromFullAndFromNone() {
        BeanVoices x = sown("b010");
        x.keep(0);
        days(x, 40);
        x.keep(1);
        due(x.on(0), 0);
        due(x.count(1), 0);
        due(x.day(), 1);
        due(x.on(1), 40);
        refuses(x, FULL, () -> x.day());
        due(x.on(1), 40);
    }

    @Bound(at = "21", says = "BAD;")
    static void onFromNoPlace() {
        BeanVoices x = sown("b010 b010", 1);
        x.keep(0);
        bad(x, NO_PLACES, (o, k) -> o.on(k));
        bad(new BeanVoices(), NO_PLACES, (o, k) -> o.on(k));
    }

    @Bound(at = "21", says = "NOTHING.")
    static void onFromMissingOnes() {
        BeanVoices x = new BeanVoices();
        finds(x, NOTHING, () -> x.on(0), () -> x.on(2));
        BeanVoices y = sown("b010", 2);
        y.keep(1);
        finds(y, NOTHING, () -> y.on(0), () -> y.on(2));
        y.garden(3);
        finds(y, NOTHING, () -> y.on(1));
    }

    // ---- 22 ripe

    @Bound(at = "22", says = "PLANTS (bits) whose next POD can be PICKED now; WORDS (bits) that these say by asked().")
    static void ripeAllAndNone() {
        BeanVoices x = sown("b010 r011 d012 o013 c013 s019");
        answers(x, x.ripe(), 0, 0);
        x.day();
        answers(x, x.ripe(), 0b010011, 0b0000010011);
        x.day();
        answers(x, x.ripe(), 0b111111, 0b1000011111);
        picks(x, 0, 0, 1);
        picks(x, 5, 9);
        answers(x, x.ripe(), 0b011110, 0b0000011110);
        x.goat(4);
        answers(x, x.ripe(), 0b001110, 0b0000001110);
        x.day();
        // the broad one waits, the bean has a pod more
        answers(x, x.ripe(), 0b000111, 0b0000000110);
    }

    @Bound(at = "22", says = "STATE: no PLANTS.")
    static void ripeWithoutPlants() {
        BeanVoices x = new BeanVoices();
        refuses(x, STATE, () -> x.ripe());
    }

    // ---- 23 when

    @Bound(at = "23", says = "In how many DAYS (0 .. 99) POD k (0 .. 8) of a PLANT is first RIPE")
    static void whenFirstRipe() {
        BeanVoices x = sown("b990 r990 d990 b010 r010");
        int[][] days = {{18, 27, 90}, {10, 18, 81}, {27, 45, NONE}, {1, 2, 9}, {1, 1, 8}};
        for (int i = 0; i < 5; i++) {
            due(x.when(i, 0), days[i][0]);
            due(x.when(i, 1), days[i][1]);
            due(x.when(i, 8), days[i][2]);
        }
        days(x, 20);
        due(x.when(0, 0), 0);
        due(x.when(0, 8), 70);
        waters(x, 0, 9);
        due(x.when(0, 8), 61);
        due(x.when(3, 8), 0);
        due(x.when(2, 3), 61);
    }

    @Bound(at = "23", says = "on a DAY on which the PLANT may be picked")
    static void whenBroad() {
        BeanVoices x = sown("o010 o110 o990 o991");
        int[] first = {2, 2, 18, 18};
        int[] last = {10, 10, 90, 90};
        for (int i = 0; i < 4; i++) {
            due(x.when(i, 0), first[i]);
            due(x.when(i, 8), last[i]);
        }
        x.water(3);
        due(x.when(3, 0), 18);
        due(x.when(3, 8), 90);
        x.water(3);
        due(x.when(3, 0), 16);
        days(x, 1);
        due(x.when(0, 0), 1);
        x.day();
        due(x.when(0, 0), 0);
        x.day();
        due(x.when(0, 0), 1);
    }

    @Bound(at = "23", says = "(that POD picked already, or not).")
    static void whenPicked() {
        BeanVoices x = sown("b010 o010", 4);
        picks(x, 0, 0, 1);
        picks(x, 1, 0);
        due(x.when(0, 0), 0);
        due(x.when(0, 1), 0);
        due(x.when(1, 0), 0);
        x.day();
        due(x.when(0, 0), 0);
        due(x.when(1, 0), 1);
    }

    @Bound(at = "23", says = "NONE: not in these")
    static void whenNever() {
        BeanVoices x = sown("d010 s010 d990");
        due(x.when(0, 3), 8);
        due(x.when(0, 4), NONE);
        due(x.when(1, 3), 8);
        due(x.when(1, 4), NONE);
        due(x.when(1, 8), NONE);
        due(x.when(2, 3), 81);
        due(x.when(2, 4), NONE);
        days(x, 40);
        due(x.when(0, 4), NONE);
    }

    @Bound(at = "23", says = "or it was eaten.")
    static void whenEaten() {
        BeanVoices x = sown("b010 b010", 3);
        x.goat(0);
        due(x.when(0, 0), NONE);
        due(x.when(0, 8), NONE);
        due(x.when(1, 0), 0);
        x.undo(3);
        due(x.when(0, 0), 0);
    }

    @Bound(at = "23", says = "BAD.")
    static void whenOfNone() {
        BeanVoices x = sown("b010 b010");
        bad(x, NO_PLANTS, (o, i) -> o.when(i, 0));
        bad(x, NO_PODS, (o, k) -> o.when(0, k));
        x.goat(0);
        bad(x, NO_PODS, (o, k) -> o.when(0, k));
        bad(new BeanVoices(), new int[] {0}, (o, i) -> o.when(i, 0));
    }

    // ---- 24 sooner

    @Bound(at = "24", says = "How many more of WATER (9 in all at most), at least, make that so in n (0 .. 40) DAYS, or sooner.")
    static void soonerByWater() {
        BeanVoices x = sown("b990 r990 o010 b010");
        int[] days = {8, 9, 10, 17, 18, 19, 40};
        int[] bean = {NONE, 9, 8, 1, 0, 0, 0};
        int[] runner = {2, 1, 0, 0, 0, 0, 0};
        for (int n = 0; n < days.length; n++) {
            due(x.sooner(0, 0, days[n]), bean[n]);
            due(x.sooner(1, 0, days[n]), runner[n]);
        }
        due(x.sooner(1, 0, 0), NONE);
        due(x.sooner(1, 0, 1), 9);
        due(x.sooner(3, 8, 0), 9);
        due(x.sooner(3, 8, 1), 8);
        due(x.sooner(3, 8, 9), 0);
    }

    @Bound(at = "24", says = "make that so in n (0 .. 40) DAYS, or sooner.")
    static void soonerOfBroadOnes() {
        BeanVoices x = sown("o010 o310");
        int[] first = {1, 1, 0, 0};
        int[] second = {4, 4, 2, 2, 0, 0};
        for (int n = 0; n < first.length; n++) {
            due(x.sooner(0, 0, n), first[n]);
        }
        for (int n = 0; n < second.length; n++) {
            due(x.sooner(1, 0, n), second[n]);
        }
        x.day();
        // on an odd day none is picked, whatever its water
        due(x.sooner(0, 0, 0), NONE);
        due(x.sooner(0, 0, 1), 0);
        due(x.sooner(1, 0, 1), 2);
    }

    @Bound(at = "24", says = "(9 in all at most)")
    static void soonerWithWaterAlready() {
        BeanVoices x = sown("b990");
        waters(x, 0, 4);
        due(x.sooner(0, 0, 9), 5);
        due(x.sooner(0, 0, 8), NONE);
        due(x.sooner(0, 0, 13), 1);
        due(x.sooner(0, 0, 14), 0);
        waters(x, 0, 5);
        due(x.sooner(0, 0, 9), 0);
        due(x.sooner(0, 0, 8), NONE);
    }

    @Bound(at = "24", says = "NONE: by none")
    static void soonerNever() {
        BeanVoices x = sown("d010 s010 b990");
        due(x.sooner(0, 3, 0), 8);
        due(x.sooner(0, 4, 40), NONE);
        due(x.sooner(1, 8, 40), NONE);
        due(x.sooner(2, 8, 40), NONE);
        due(x.sooner(2, 3, 36), 9);
        due(x.sooner(2, 3, 35), NONE);
        days(x, 1);
        due(x.sooner(2, 3, 35), 9);
    }

    @Bound(at = "24", says = "or it was eaten.")
    static void soonerEaten() {
        BeanVoices x = sown("b010 b010", 3);
        x.goat(0);
        due(x.sooner(0, 0, 0), NONE);
        due(x.sooner(0, 0, 40), NONE);
        due(x.sooner(1, 0, 0), 0);
    }

    @Bound(at = "24", says = "BAD.")
    static void soonerOfNone() {
        BeanVoices x = sown("b010 b010");
        bad(x, NO_PLANTS, (o, i) -> o.sooner(i, 0, 0));
        bad(x, NO_PODS, (o, k) -> o.sooner(0, k, 0));
        bad(x, new int[] {-1, 41, LEAST, MOST}, (o, n) -> o.sooner(0, 0, n));
        bad(new BeanVoices(), new int[] {0}, (o, i) -> o.sooner(i, 0, 0));
        x.goat(1);
        bad(x, new int[] {-1, 41}, (o, n) -> o.sooner(1, 0, n));
    }

    public static void main(String[] args) {
        runAll(BoundsOfDeeds.class);
    }
}
