import java.math.BigInteger;

/** The sentences of promises 33 to 43: turns, chances, lots, what is told. */
public final class BoundsOfChances extends Bounds {

    // ---- 33 duel

    @Bound(at = "33", says = "By n (0 .. 5) turns in all today one, then another one picks the next POD of a PLANT")
    static void duelOfNoneToFiveTurns() {
        BeanVoices x = sown("b015 b013 b018 b011 b014 b012", 1);
        int[] sums = {0, 8, 9, 14, 16, 20};
        for (int n = 0; n <= 5; n++) {
            due(x.duel(n), sums[n]);
        }
        due(x.count(3), 0);
        due(x.count(2), 1);
    }

    @Bound(at = "33", says = "that can be PICKED (if there is any)")
    static void duelWithTooFewPods() {
        BeanVoices x = sown("b013 o018 d016");
        for (int n = 0; n <= 5; n++) {
            due(x.duel(n), 0);
        }
        x.day();
        for (int n = 1; n <= 5; n++) {
            due(x.duel(n), 3);
        }
        x.goat(0);
        due(x.duel(5), 0);
        x.undo(1);
        x.day();
        due(x.duel(1), 8);
        // the broad one has 8 and 0, the bean 3 and 4, the dwarf 6
        due(x.duel(5), 21);
        picks(x, 1, 8, 0);
        due(x.duel(5), 13);
        due(x.duel(3), 13);
        due(x.duel(2), 9);
    }

    @Bound(at = "33", says = "the first wanting that all WORDS said make much together, the other one little: how much.")
    static void duelLooksAhead() {
        BeanVoices x = sown("r010 b011 b011", 1);
        due(x.duel(1), 1);
        due(x.duel(2), 1);
        // 0 first, so that the runner's 3 is there behind the other one's turn
        due(x.duel(3), 4);
        due(x.duel(4), 5);
        BeanVoices y = sown("b019 b018", 2);
        due(y.duel(1), 9);
        // 8 first, as 9 lets the other one take the 0 behind it
        due(y.duel(2), 17);
        due(y.duel(3), 26);
        due(y.duel(4), 26);
    }

    @Bound(at = "33", says = "BAD;")
    static void duelOfNoTurns() {
        int[] none = {-1, 6, LEAST, MOST};
        bad(sown("b010", 1), none, (o, n) -> o.duel(n));
        bad(new BeanVoices(), none, (o, n) -> o.duel(n));
    }

    @Bound(at = "33", says = "STATE: no PLANTS.")
    static void duelWithoutPlants() {
        BeanVoices x = new BeanVoices();
        refuses(x, STATE, () -> x.duel(0), () -> x.duel(5));
    }

    // ---- 34 odds

    @Bound(at = "34", says = "Chances that v (0 .. 6) or more of the next PODS that can be PICKED now are left")
    static void oddsOfNoneToSix() {
        BeanVoices x = sown("b010 b010 b010 b010 b010 b010");
        ratio(x, x.odds(0, 6), 1, 1);
        ratio(x, x.odds(1, 6), 0, 1);
        ratio(x, x.odds(1, 0), 0, 1);
        x.day();
        long[] sums = {64, 63, 57, 42, 22, 7, 1};
        long[] lowest = {1, 64, 64, 32, 32, 64, 64};
        long[] upper = {1, 63, 57, 21, 11, 7, 1};
        for (int v = 0; v <= 6; v++) {
            due(upper[v] * 64 / lowest[v], sums[v]);
            ratio(x, x.odds(v, 6), upper[v], lowest[v]);
        }
        x.goat(0);
        ratio(x, x.odds(6, 0), 0, 1);
        ratio(x, x.odds(5, 0), 1, 1);
        ratio(x, x.odds(5, 6), 1, 32);
        x.pick(1);
        ratio(x, x.odds(5, 0), 0, 1);
        ratio(x, x.odds(4, 6), 1, 16);
    }

    @Bound(at = "34", says = "if slugs take each by p (0 .. 12) of 12, each by itself: 1.")
    static void oddsOfSlugs() {
        BeanVoices x = sown("b010 b010 b010 b010 b010 b010", 1);
        ratio(x, x.odds(6, 0), 1, 1);
        ratio(x, x.odds(0, 0), 1, 1);
        ratio(x, x.odds(0, 12), 1, 1);
        ratio(x, x.odds(1, 12), 0, 1);
        ratio(x, x.odds(6, 12), 0, 1);
        ratio(x, x.odds(6, 11), 1, 2985984);
        ratio(x, x.odds(6, 1), 1771561, 2985984);
        ratio(x, x.odds(1, 11), 1214423, 2985984);
        BeanVoices y = sown("b010", 1);
        for (int p = 0; p <= 12; p++) {
            due(y.odds(1, p), 1);
            due(y.upper() * 12, (12 - p) * y.lower());
        }
    }

    @Bound(at = "34", says = "BAD;")
    static void oddsOfNone() {
        for (BeanVoices x : new BeanVoices[] {sown("b010", 1), new BeanVoices()}) {
            bad(x, new int[] {-1, 7, LEAST, MOST}, (o, v) -> o.odds(v, 6));
            bad(x, new int[] {-1, 13, LEAST, MOST}, (o, p) -> o.odds(1, p));
        }
    }

    @Bound(at = "34", says = "STATE: no PLANTS.")
    static void oddsWithoutPlants() {
        BeanVoices x = new BeanVoices();
        refuses(x, STATE, () -> x.odds(0, 0), () -> x.odds(6, 12));
    }

    // ---- 35 mid

    @Bound(at = "35", says = "The mean of the greatest WORD that these say so")
    static void midOfWords() {
        BeanVoices x = sown("b019 b019 b019 b019 b019 b019", 1);
        ratio(x, x.mid(0), 9, 1);
        ratio(x, x.mid(6), 567, 64);
        ratio(x, x.mid(11), 1214423, 331776);
        BeanVoices y = sown("b010 b011 b019 o018", 1);
        ratio(y, y.mid(0), 9, 1);
        // 9 by a half, else 1 by a half
        ratio(y, y.mid(6), 19, 4);
        // 9 by a third, else 1 by a third
        ratio(y, y.mid(8), 29, 9);
        y.goat(2);
        ratio(y, y.mid(6), 1, 2);
        y.pick(1);
        ratio(y, y.mid(6), 0, 1);
    }

    @Bound(at = "35", says = "(0: none is left): 1.")
    static void midOfNone() {
        BeanVoices x = sown("b019 b018");
        ratio(x, x.mid(0), 0, 1);
        ratio(x, x.mid(6), 0, 1);
        x.day();
        ratio(x, x.mid(12), 0, 1);
        // 9 by 12 of 144, 8 by 11 of 144
        ratio(x, x.mid(11), 49, 36);
    }

    @Bound(at = "35", says = "BAD;")
    static void midOfNoSlugs() {
        bad(sown("b010", 1), new int[] {-1, 13, LEAST, MOST}, (o, p) -> o.mid(p));
        bad(new BeanVoices(), new int[] {-1, 13, LEAST, MOST}, (o, p) -> o.mid(p));
    }

    @Bound(at = "35", says = "STATE: no PLANTS.")
    static void midWithoutPlants() {
        BeanVoices x = new BeanVoices();
        refuses(x, STATE, () -> x.mid(0), () -> x.mid(12));
    }

    // ---- 36 lots

    /** The same by single deeds: the sum of the words, or NONE if a deed was refused that should not be. */
    private static int byHand(BeanVoices x, int n, int seed) {
        BigInteger number = BigInteger.valueOf(seed);
        int sum = 0;
        for (int turn = 0; turn < n; turn++) {
            number = number.multiply(BigInteger.valueOf(48271)).mod(BigInteger.valueOf(2147483647));
            int i = number.divide(BigInteger.valueOf(8)).mod(BigInteger.valueOf(x.count(0))).intValue();
            int word = x.pick(i);
            if (word >= 0) {
                sum += word;
            } else if (number.mod(BigInteger.valueOf(3)).signum() != 0 || x.water(i) < 0) {
                due(x.day() > 0 ? 1 : 0, 1);
            }
        }
        return sum;
    }

    private static void sameByHand(String signs, int days, int n, int seed) {
        BeanVoices x = sown(signs, days);
        BeanVoices y = sown(signs, days);
        due(x.lots(n, seed), byHand(y, n, seed));
        due(x.digest(), y.digest());
        due(x.count(2), days + n);
        due(x.undo(days), n);
        y.undo(days);
        due(x.digest(), y.digest());
    }

    @Bound(at = "36", says = "n (1 .. 20) DEEDS truly by LOTS of a seed:")
    static void lotsOfOneToTwenty() {
        for (int n = 1; n <= 20; n++) {
            sameByHand("b013 r024 d015 o016 c017 s018", 2, n, 12345);
        }
        BeanVoices x = sown("b010");
        due(x.lots(20, 1) >= 0 ? 1 : 0, 1);
        due(x.count(2), 20);
        due(x.lots(20, 1) >= 0 ? 1 : 0, 1);
        due(x.count(2), 40);
    }

    @Bound(at = "36", says = "a number comes from the one ahead by 48271 times it modulo 2147483647,"
            + " the first from the seed (1 .. 2147483646):")
    static void lotsOfTheLeastAndGreatestSeeds() {
        int[] seeds = {1, 2, 3, 44488, 44489, 1073741824, MOST - 48271, MOST - 2, MOST - 1};
        for (int seed : seeds) {
            sameByHand("b013 r024 d015 o016 c017 s018", 0, 20, seed);
            sameByHand("b919", 5, 20, seed);
            sameByHand("o015 c014 s013 r012 b011", 20, 20, seed);
        }
        // the greatest seed gives 2147435376: by 8 cut 268429422, of six plants the first, and over 0 by 3
        BeanVoices x = sown("b990 b990 b990 b990 b990 b990");
        due(x.lots(1, MOST - 1), 0);
        plantIs(x, 0, 4, 1);
        due(x.count(4), 1);
        // the least gives 48271: by 8 cut 6033, of six plants the fourth, and over 1 by 3
        due(x.lots(1, 1), 0);
        due(x.count(4), 1);
        due(x.count(1), 1);
    }

    @Bound(at = "36", says = "PLANT it by 8, cut, modulo how many there are is picked, if it can be")
    static void lotsPick() {
        BeanVoices x = sown("b013 b014 b015 b016 b017 b018", 1);
        due(x.lots(1, 1), 6);
        plantIs(x, 3, 5, 1);
        due(x.count(3), 1);
        due(x.count(6), 6);
        // eaten ones count among them, too
        BeanVoices y = sown("b013 b014 b015 b016 b017 b018", 1);
        y.goat(0);
        due(y.lots(1, 1), 6);
        plantIs(y, 3, 5, 1);
        BeanVoices z = sown("b013", 1);
        due(z.lots(1, MOST - 1), 3);
        due(z.count(4), 0);
    }

    @Bound(at = "36", says = "else has WATER, if it can and the number modulo 3 is 0")
    static void lotsWater() {
        BeanVoices x = sown("b990");
        for (int n = 1; n <= 9; n++) {
            due(x.lots(1, MOST - 1), 0);
            due(x.count(4), n);
            due(x.count(1), 0);
        }
        due(x.lots(1, MOST - 1), 0);
        due(x.count(4), 9);
        due(x.count(1), 1);
        BeanVoices y = sown("b990");
        y.goat(0);
        due(y.lots(1, MOST - 1), 0);
        due(y.count(4), 0);
        due(y.count(1), 1);
    }

    @Bound(at = "36", says = "else a DAY passes: the WORDS said in these together.")
    static void lotsDays() {
        BeanVoices x = sown("b990");
        due(x.lots(1, 1), 0);
        due(x.count(1), 1);
        due(x.count(4), 0);
        // on an odd day a broad one is not picked: 48271 leaves over 1, so a day passes, then it is picked
        BeanVoices y = sown("o019", 3);
        due(y.lots(1, 1), 0);
        due(y.count(1), 4);
        due(y.lots(1, 1), 9);
        due(y.lots(1, 1), 1);
        // 9, 1 and 3 in one run, behind each of which the next pod is ripe still
        BeanVoices z = sown("o019", 8);
        due(z.lots(3, 1), 13);
        due(z.count(6), 3);
    }

    @Bound(at = "36", says = "BAD;")
    static void lotsOfNone() {
        for (BeanVoices x : new BeanVoices[] {sown("b010", 40), new BeanVoices()}) {
            bad(x, new int[] {0, -1, 21, LEAST, MOST}, (o, n) -> o.lots(n, 1));
            bad(x, new int[] {0, -1, LEAST, MOST}, (o, seed) -> o.lots(1, seed));
        }
    }

    @Bound(at = "36", says = "STATE: no PLANTS;")
    static void lotsWithoutPlants() {
        BeanVoices x = new BeanVoices();
        refuses(x, STATE, () -> x.lots(1, 1), () -> x.lots(20, MOST - 1));
    }

    @Bound(at = "36", says = "FULL: with n more there would be more than 40 DEEDS.")
    static void lotsAsDeedFortyOne() {
        BeanVoices x = sown("b010", 21);
        refuses(x, FULL, () -> x.lots(20, 1));
        due(x.lots(19, 1) >= 0 ? 1 : 0, 1);
        due(x.count(2), 40);
        refuses(x, FULL, () -> x.lots(1, 1), () -> x.lots(20, 1));
        BeanVoices y = sown("b010", 39);
        refuses(y, FULL, () -> y.lots(2, 1));
        due(y.lots(1, 1), 0);
        due(y.count(2), 40);
    }

    @Bound(at = "36", says = "(FULL last.)")
    static void lotsFullBehindBad() {
        BeanVoices x = sown("b010", 40);
        refuses(x, BAD, () -> x.lots(21, 1), () -> x.lots(1, 0), () -> x.lots(0, MOST));
        refuses(x, FULL, () -> x.lots(20, 1));
    }

    // ---- 37 asked

    @Bound(at = "37", says = "What the latest lay(), at(), mean(), plant(), ripe(), ways(), none(), often(), listen()")
    static void askedOfEach() {
        BeanVoices x = sown("b017 r015", 1);
        lay(x, 0, 40);
        due(x.asked(), 0);
        x.lay(0, 0, 41);
        due(x.asked(), 40);
        x.at(0, 0);
        due(x.asked(), 41);
        x.lay(0, 0, -6);
        x.mean(0);
        due(x.asked(), -6);
        x.plant(0, 3);
        due(x.asked(), 7);
        x.ripe();
        due(x.asked(), 1 << 7 | 1 << 5);
        x.lay(0, 0, 5);
        x.ways(0);
        due(x.asked(), 2);
        x.none(0);
        due(x.asked(), 1);
        x.often(9);
        due(x.asked(), 0);
        x.row(0, 0);
        x.listen(0, 0);
        due(x.asked(), 6);
        x.none(0);
        due(x.asked(), NONE);
    }

    @Bound(at = "37", says = "What the latest lay(), at(), mean(), plant(), ripe(), ways(), none(), often(), listen()")
    static void askedOfNoOthers() {
        BeanVoices x = sown("c017 r015 o013 s010", 4);
        lay(x, 0, 6);
        lay(x, 1, 77);
        x.at(1, 0);
        x.row(2, 3);
        x.tear(2);
        x.copy(0, 0, 1, 0, 1);
        x.text(0, 4);
        x.put(0, 0, 9);
        x.fault(3);
        x.mark(0, 1);
        x.word(0, 8);
        due(x.asked(), 77);
        x.day();
        x.water(0);
        x.pick(1);
        x.goat(2);
        x.undo(5);
        x.keep(0);
        x.on(0);
        x.when(0, 8);
        x.sooner(0, 8, 3);
        x.soonest(0, 4);
        due(x.asked(), 77);
        x.row(3, 0);
        x.seeds(0, 3);
        x.kinds(0, 3);
        x.guess(0, 3, 3);
        x.duel(5);
        x.odds(1, 1);
        x.mid(1);
        x.lots(2, 5);
        x.count(4);
        x.finding();
        x.findings(1);
        x.upper();
        x.lower();
        x.digest();
        x.garden(3);
        due(x.asked(), 77);
    }

    @Bound(at = "37", says = "that was not refused (nor answered NONE) told;")
    static void askedOfNoneRefused() {
        BeanVoices x = sown("b017 r015", 1);
        lay(x, 0, 88);
        x.row(1, 0);
        lay(x, 2, 9);
        lay(x, 3, 0, 1, 0, 2);
        x.at(0, 0);
        due(x.listen(0, 3), NONE);
        due(x.asked(), 88);
        refuses(x, BAD, () -> x.lay(6, 0, 1), () -> x.at(6, 0), () -> x.mean(6), () -> x.plant(2, 0), () -> x.ways(6),
                () -> x.none(6), () -> x.often(10), () -> x.listen(2, 1));
        finds(x, BEYOND, () -> x.lay(0, 1, 1), () -> x.at(0, 1));
        finds(x, NOUGHT, () -> x.mean(1), () -> x.none(2));
        finds(x, UNLIKE, () -> x.ways(0), () -> x.none(0));
        finds(x, SIZE, () -> x.listen(0, 0));
        due(x.asked(), 88);
    }

    @Bound(at = "37", says = "0 before.")
    static void askedBefore() {
        BeanVoices x = new BeanVoices();
        due(x.asked(), 0);
        x.at(0, 0);
        x.ripe();
        x.often(0);
        due(x.asked(), 0);
        due(sown("b017", 1).asked(), 0);
    }

    // ---- 38, 39 upper, lower

    @Bound(at = "38", says = "The upper number that was told last;")
    static void upperLast() {
        BeanVoices x = sown("b017 r017", 1);
        x.odds(1, 11);
        due(x.upper(), 23);
        x.mid(9);
        due(x.upper(), 49);
        lay(x, 0, 7);
        x.ways(0);
        due(x.upper(), 2);
        refuses(x, BAD, () -> x.odds(7, 1), () -> x.mid(13), () -> x.ways(6));
        finds(x, NOTHING, () -> x.ways(1));
        x.none(0);
        x.duel(2);
        x.soonest(0, 1);
        x.garden(3);
        due(x.upper(), 2);
    }

    @Bound(at = "38", says = "0 before.")
    static void upperBefore() {
        BeanVoices x = new BeanVoices();
        due(x.upper(), 0);
        x.odds(0, 0);
        x.mid(0);
        due(x.upper(), 0);
    }

    @Bound(at = "39", says = "Its lower number;")
    static void lowerLast() {
        BeanVoices x = sown("b017 r017", 1);
        x.odds(1, 11);
        due(x.lower(), 144);
        x.mid(9);
        due(x.lower(), 16);
        refuses(x, BAD, () -> x.odds(7, 1), () -> x.mid(13), () -> x.ways(6));
        x.ripe();
        x.garden(3);
        due(x.lower(), 16);
        lay(x, 0, 7);
        x.ways(0);
        due(x.lower(), 1);
    }

    @Bound(at = "39", says = "1 before.")
    static void lowerBefore() {
        BeanVoices x = new BeanVoices();
        due(x.lower(), 1);
        x.odds(0, 6);
        x.mid(6);
        due(x.lower(), 1);
    }

    // ---- 40 count

    @Bound(at = "40", says = "0 PLANTS, 1 the DAY, 2 DEEDS, 3 PODS picked of all, 4 all WATER, 5 PLANTS not eaten (bits)")
    static void countOfGardens() {
        BeanVoices x = sown("b010 r010 d010 o010 c010 s010");
        counts(x, 6, 0, 0, 0, 0, 63);
        for (int i = 0; i < 4; i++) {
            waters(x, i, 9);
        }
        counts(x, 6, 0, 36, 0, 36, 63);
        picks(x, 1, 0, 3);
        counts(x, 6, 0, 38, 2, 36, 63);
        x.goat(1);
        // what an eaten one had and gave is still counted
        counts(x, 6, 0, 39, 2, 36, 61);
        x.goat(0);
        counts(x, 6, 0, 40, 2, 36, 60);
        BeanVoices y = sown("b010 b010", 9);
        for (int k = 0; k <= 8; k++) {
            picks(y, 0, k);
            picks(y, 1, k);
        }
        counts(y, 2, 9, 27, 18, 0, 3);
    }

    @Bound(at = "40", says = "6 the WORD said last (10: none, of all)")
    static void countOfTheLastWord() {
        BeanVoices x = sown("b019 b010", 3);
        due(x.count(6), 10);
        picks(x, 1, 0);
        due(x.count(6), 0);
        picks(x, 0, 9);
        due(x.count(6), 9);
        x.keep(0);
        x.goat(0);
        x.day();
        due(x.count(6), 9);
        x.undo(4);
        due(x.count(6), 0);
        x.undo(3);
        due(x.count(6), 10);
        x.on(0);
        due(x.count(6), 9);
        x.garden(3);
        due(x.count(6), 10);
        due(new BeanVoices().count(6), 10);
    }

    @Bound(at = "40", says = "7 RUNNERS (SCARLETS, too)")
    static void countOfRunners() {
        due(sown("b010 d010 o010 s010").count(7), 0);
        due(sown("b010 r010 d010 o010 c010 s010").count(7), 2);
        due(sown("r010 c010 r010 c010 r010 c010").count(7), 6);
        due(new BeanVoices().count(7), 0);
    }

    @Bound(at = "40", says = "8 ROWS, 9 TEXTS that are there, 10 kept GARDENS.")
    static void countOfWhatIsThere() {
        BeanVoices x = new BeanVoices();
        for (int r = 0; r <= 5; r++) {
            x.row(r, 0);
            due(x.count(8), r + 1);
        }
        for (int t = 0; t <= 3; t++) {
            x.text(t, 0);
            due(x.count(9), t + 1);
        }
        x.row(0, 3);
        x.text(0, 3);
        due(x.count(8), 6);
        due(x.count(9), 4);
        x.tear(0);
        due(x.count(8), 5);
        write(x, 0, "b010");
        x.garden(0);
        for (int k = 0; k <= 2; k++) {
            due(x.count(10), k);
            x.keep(k);
        }
        x.keep(0);
        due(x.count(10), 3);
        x.on(0);
        due(x.count(10), 3);
        x.garden(0);
        due(x.count(10), 0);
    }

    @Bound(at = "40", says = "BAD.")
    static void countOfNone() {
        bad(sown("b010"), new int[] {-1, 11, LEAST, MOST}, (o, what) -> o.count(what));
    }

    // ---- 41, 42 finding, findings

    @Bound(at = "41", says = "The latest FINDING (0 before any).")
    static void theLatestFinding() {
        BeanVoices x = sown("b010", 1);
        due(x.finding(), 0);
        x.row(6, 1);
        x.garden(4);
        x.pick(0);
        due(x.pick(0), STATE);
        due(x.when(0, 9), BAD);
        due(x.finding(), 0);
        x.row(0, -1);
        due(x.finding(), SIZE);
        x.at(0, 0);
        due(x.finding(), NOTHING);
        x.row(0, 0);
        due(x.finding(), NOTHING);
        x.at(0, 0);
        due(x.finding(), BEYOND);
        x.mean(0);
        due(x.finding(), NOUGHT);
        x.mark(0, 1);
        due(x.finding(), UNLIKE);
        x.day();
        x.tear(6);
        x.garden(3);
        due(x.finding(), UNLIKE);
    }

    @Bound(at = "42", says = "How often a FINDING (1 .. 5) was answered.")
    static void howOftenFound() {
        BeanVoices x = sown("b010", 1);
        x.row(0, 0);
        for (int n = 1; n <= 5; n++) {
            for (int f = 1; f <= 5; f++) {
                due(x.findings(f), f < n ? f : 0);
            }
            for (int times = 0; times < n; times++) {
                due(find(x, n), FINDING);
            }
        }
        due(x.findings(5), 5);
        x.garden(3);
        for (int f = 1; f <= 5; f++) {
            due(x.findings(f), f);
        }
    }

    private static int find(BeanVoices x, int finding) {
        switch (finding) {
            case NOTHING: return x.at(1, 0);
            case BEYOND: return x.at(0, 0);
            case UNLIKE: return x.mark(0, 1);
            case NOUGHT: return x.mean(0);
            default: return x.row(0, -1);
        }
    }

    @Bound(at = "42", says = "How often a FINDING (1 .. 5) was answered.")
    static void findingsOfManyCalls() {
        BeanVoices x = new BeanVoices();
        for (int n = 0; n < 500; n++) {
            x.tear(0);
        }
        due(x.findings(1), 500);
        for (int f = 2; f <= 5; f++) {
            due(x.findings(f), 0);
        }
    }

    @Bound(at = "42", says = "BAD.")
    static void findingsOfNone() {
        BeanVoices x = new BeanVoices();
        x.tear(0);
        bad(x, new int[] {0, -1, 6, LEAST, MOST}, (o, f) -> o.findings(f));
    }

    // ---- 43 digest

    private static long fold(long h, long... values) {
        for (long v : values) {
            h = 31 * h + v;
        }
        return h;
    }

    private static long foldOfNew() {
        return fold(17, 0, 0, 0, 0, 0, 0, 10, 0, 0, 0, 0, -1, -1, -1, -1, -1, -1, -1, -1, -1, -1, -1, -1, -1);
    }

    @Bound(at = "43", says = "h = 17; then h = 31 h + v for each v: count() 0 to 10;")
    static void digestOfCounts() {
        due(new BeanVoices().digest(), foldOfNew());
        BeanVoices x = new BeanVoices();
        x.tear(0);
        due(x.digest(), foldOfNew());
        due(x.finding(), NOTHING);
    }

    @Bound(at = "43", says = "of each PLANT plant() 0 to 7;")
    static void digestOfPlants() {
        BeanVoices x = sown("r017 s920", 2);
        x.water(0);
        picks(x, 0, 7, 0);
        x.goat(1);
        x.text(3, 0);
        long h = fold(17, 2, 2, 6, 2, 1, 1, 0, 1, 0, 1, 0);
        h = fold(h, 1, 0, 1, 7, 1, 2, 4, 0, 5, 9, 2, 0, 0, 0, 0, 1);
        h = fold(h, -1, -1, -1, -1, -1, -1, -1, -1, -1, -1, -1, -1, 0);
        due(x.digest(), h);
        x.undo(0);
        h = fold(17, 2, 0, 0, 0, 0, 3, 10, 1, 0, 1, 0, 1, 0, 1, 7, 0, 0, 0, 0, 5, 9, 2, 0, 0, 0, 0, 0);
        h = fold(h, -1, -1, -1, -1, -1, -1, -1, -1, -1, -1, -1, -1, 0);
        due(x.digest(), h);
    }

    @Bound(at = "43", says = "of each kept GARDEN how many DEEDS (-1: missing);")
    static void digestOfKept() {
        BeanVoices x = sown("b017");
        x.keep(2);
        days(x, 40);
        x.keep(0);
        x.text(3, 0);
        long h = fold(17, 1, 40, 40, 0, 0, 1, 10, 0, 0, 1, 2, 0, 0, 1, 7, 0, 0, 9, 0);
        h = fold(h, 40, -1, 0, -1, -1, -1, -1, -1, -1, -1, -1, -1, 0);
        due(x.digest(), h);
        x.keep(1);
        h = fold(17, 1, 40, 40, 0, 0, 1, 10, 0, 0, 1, 3, 0, 0, 1, 7, 0, 0, 9, 0);
        h = fold(h, 40, 40, 0, -1, -1, -1, -1, -1, -1, -1, -1, -1, 0);
        due(x.digest(), h);
    }

    @Bound(at = "43", says = "of each ROW its size (-1: missing) and places, of each TEXT likewise.")
    static void digestOfRowsAndTexts() {
        BeanVoices x = new BeanVoices();
        x.row(0, 0);
        lay(x, 2, MOST, LEAST, -1);
        lay(x, 5, 3);
        x.text(0, 2);
        x.put(0, 1, 128);
        x.text(3, 0);
        long h = fold(17, 0, 0, 0, 0, 0, 0, 10, 0, 3, 2, 0, -1, -1, -1);
        h = fold(h, 0, -1, 3, MOST, LEAST, -1, -1, -1, 1, 3);
        h = fold(h, 2, 32, -128, -1, -1, 0);
        due(x.digest(), h);
        x.tear(2);
        h = fold(17, 0, 0, 0, 0, 0, 0, 10, 0, 2, 2, 0, -1, -1, -1);
        h = fold(h, 0, -1, -1, -1, -1, 1, 3);
        h = fold(h, 2, 32, -128, -1, -1, 0);
        due(x.digest(), h);
    }

    @Bound(at = "43", says = "of each ROW its size (-1: missing) and places, of each TEXT likewise.")
    static void digestOfAllFull() {
        BeanVoices x = new BeanVoices();
        long h = fold(17, 0, 0, 0, 0, 0, 0, 10, 0, 6, 4, 0, -1, -1, -1);
        for (int r = 0; r <= 5; r++) {
            x.row(r, 40);
            x.lay(r, 39, MOST - r);
            h = fold(h, 40);
            for (int i = 0; i < 40; i++) {
                h = fold(h, i == 39 ? MOST - r : 0);
            }
        }
        for (int t = 0; t <= 3; t++) {
            x.text(t, 60);
            x.put(t, 59, 250 + t);
            h = fold(h, 60);
            for (int i = 0; i < 60; i++) {
                h = fold(h, i == 59 ? t - 6 : 32);
            }
        }
        due(x.digest(), h);
        due(x.digest(), h);
    }

    public static void main(String[] args) {
        runAll(BoundsOfChances.class);
    }
}
