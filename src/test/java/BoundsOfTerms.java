/** The sentences ahead of the promises: what is refused and how, what a GARDEN is, when PODS are RIPE, what they say. */
public final class BoundsOfTerms extends Bounds {
    private static final String LETTERS = "brdocs";

    @Bound(at = "What it is", says = "An object is used for at most 512 calls after it has been made")
    static void all512CallsAnswer() {
        BeanVoices x = new BeanVoices();
        due(x.row(5, 40), 40);
        for (int n = 0; n < 255; n++) {
            due(x.lay(5, n % 40, n), 1);
            due(x.asked(), n < 40 ? 0 : n - 40);
        }
        due(x.at(5, 14), 1);
    }

    // ---- what is refused

    @Bound(at = "Terms", says = "Refused is, the first of these that fits, in this order:")
    static void badGoesAheadOfAll() {
        BeanVoices x = new BeanVoices();
        refuses(x, BAD, () -> x.often(10), () -> x.duel(6), () -> x.odds(7, 0), () -> x.mid(13), () -> x.lots(0, 1),
                () -> x.keep(3), () -> x.ways(6), () -> x.none(6), () -> x.soonest(6, 0), () -> x.soonest(0, 6));
        BeanVoices y = new BeanVoices();
        refuses(y, BAD, () -> y.row(6, -1), () -> y.text(4, -1), () -> y.copy(6, 0, 0, 0, -1),
                () -> y.copy(0, 0, 6, 0, -1), () -> y.garden(4), () -> y.on(3), () -> y.at(6, -1));
        BeanVoices z = sown("b010 r010");
        refuses(z, BAD, () -> z.mark(0, 0), () -> z.mark(2, 4), () -> z.guess(0, 9, 0), () -> z.seeds(2, 0),
                () -> z.kinds(2, 0), () -> z.listen(2, 0));
        BeanVoices full = sown("b010 r010", 40);
        refuses(full, BAD, () -> full.water(2), () -> full.pick(2), () -> full.goat(2), () -> full.lots(21, 1));
    }

    @Bound(at = "Terms", says = "BAD -1 (a number that is none, or not as told)")
    static void badIsMinusOne() {
        due(BeanVoices.BAD, -1);
        due(new BeanVoices().tear(6), -1);
        due(new BeanVoices().often(10), -1);
    }

    @Bound(at = "Terms", says = "FULL -2")
    static void fullIsMinusTwo() {
        due(BeanVoices.FULL, -2);
        due(sown("b010", 40).day(), -2);
    }

    @Bound(at = "Terms", says = "STATE -4 (not now)")
    static void stateIsMinusFourAndAheadOfFindings() {
        due(BeanVoices.STATE, -4);
        BeanVoices x = new BeanVoices();
        due(x.day(), -4);
        refuses(x, STATE, () -> x.ways(0), () -> x.none(0), () -> x.soonest(0, 0));
        lay(x, 0, 1, 2, 3, 4, 5, 99);
        refuses(x, STATE, () -> x.ways(0), () -> x.none(0), () -> x.soonest(0, 0));
    }

    @Bound(at = "Terms", says = "SPENT -6 (more than told)")
    static void spentIsAnsweredByNoCall() {
        due(BeanVoices.SPENT, -6);
        int[] numbers = {LEAST, -1, 0, 1, 5, 6, 9, 40, 41, MOST};
        for (int a : numbers) {
            for (int b : numbers) {
                BeanVoices x = sown("o010 s010", 2);
                int[] all = {x.row(a, b), x.lay(a, b, 1), x.at(a, b), x.tear(a), x.copy(a, b, a, b, a), x.mean(a),
                    x.text(a, b), x.put(a, b, 1), x.fault(a), x.plant(a, b), x.mark(a, b), x.word(a, b), x.water(a),
                    x.pick(a), x.goat(a), x.undo(a), x.keep(a), x.on(a), x.when(a, b), x.sooner(a, b, a),
                    x.soonest(a, b), x.ways(a), x.none(a), x.often(a), x.seeds(a, b), x.kinds(a, b), x.guess(a, b, a),
                    x.listen(a, b), x.duel(a), x.odds(a, b), x.mid(a), x.lots(a, b), x.count(a), x.findings(a),
                    x.garden(a)};
                for (int answer : all) {
                    due(answer == SPENT ? 1 : 0, 0);
                }
            }
        }
    }

    @Bound(at = "Terms", says = "FINDING -3 (finding() tells which)")
    static void findingIsMinusThree() {
        due(BeanVoices.FINDING, -3);
        BeanVoices x = new BeanVoices();
        due(x.tear(0), -3);
        due(x.finding(), 1);
        due(x.row(0, -1), -3);
        due(x.finding(), 5);
    }

    @Bound(at = "Terms", says = "unless a call says so otherwise")
    static void fullLastAndStateBehindNothing() {
        BeanVoices x = sown("b910 b990", 31);
        waters(x, 1, 9);
        refuses(x, STATE, () -> x.water(1));
        refuses(x, FULL, () -> x.day(), () -> x.water(0), () -> x.pick(0), () -> x.goat(0), () -> x.lots(1, 1));
        finds(x, NOTHING, () -> x.garden(0));
    }

    @Bound(at = "Terms", says = "NONE -9.")
    static void noneIsMinusNine() {
        due(BeanVoices.NONE, -9);
        due(sown("d010").when(0, 4), -9);
    }

    // ---- what is refused changes nothing

    /** Nothing in it is as at first: ROWS, TEXTS, DEEDS of all sorts, kept GARDENS, what was told. */
    private static BeanVoices lived() {
        BeanVoices x = sown("b013 r014 d010 o010 c019 s015");
        lay(x, 0, 7, -8, 9);
        x.row(1, 0);
        lay(x, 2, 3, 3, 9, 9, 9, 9);
        lay(x, 3, 10);
        lay(x, 4, 9);
        write(x, 0, "b01 x");
        days(x, 3);
        waters(x, 0, 9);
        x.keep(0);
        picks(x, 0, 3, 4);
        picks(x, 1, 4);
        x.goat(2);
        x.keep(2);
        picks(x, 5, 5);
        x.odds(2, 5);
        x.plant(4, 3);
        return x;
    }

    private static long[] whole(BeanVoices x) {
        int deeds = x.count(2);
        long[] all = {x.digest(), x.asked(), x.upper(), x.lower(), deeds, x.undo(deeds - 2), x.digest(), x.on(0),
            x.digest(), x.undo(2), x.digest(), x.on(2), x.digest(), x.pick(5), x.on(1), x.ripe(), x.asked()};
        return all;
    }

    private static void changeNothing(int code, Call... calls) {
        for (Call call : calls) {
            BeanVoices x = lived();
            due(call.on(x), code);
            long[] got = whole(x);
            long[] want = whole(lived());
            for (int i = 0; i < want.length; i++) {
                due(got[i], want[i]);
            }
        }
    }

    @Bound(at = "Terms", says = "What is refused changes nothing but finding(), findings().")
    static void badChangesNothing() {
        changeNothing(BAD, x -> x.row(6, 1), x -> x.row(0, 41), x -> x.lay(6, 0, 1), x -> x.at(6, 0), x -> x.tear(6),
                x -> x.copy(6, 0, 0, 0, 1), x -> x.copy(0, 0, 6, 0, 1), x -> x.mean(6), x -> x.text(4, 1),
                x -> x.text(0, 61), x -> x.put(4, 0, 1), x -> x.fault(4), x -> x.garden(4), x -> x.plant(6, 0),
                x -> x.plant(0, 8), x -> x.mark(6, 1), x -> x.mark(1, 0), x -> x.mark(1, 6), x -> x.word(6, 0),
                x -> x.word(0, 9));
        changeNothing(BAD, x -> x.water(6), x -> x.pick(6), x -> x.goat(6), x -> x.undo(-1), x -> x.undo(18),
                x -> x.keep(3), x -> x.on(3), x -> x.when(6, 0), x -> x.when(0, 9), x -> x.sooner(6, 0, 0),
                x -> x.sooner(0, 9, 0), x -> x.sooner(0, 0, 41), x -> x.soonest(6, 0), x -> x.soonest(4, 6),
                x -> x.ways(6), x -> x.none(6), x -> x.often(10));
        changeNothing(BAD, x -> x.seeds(6, 1), x -> x.seeds(0, 6), x -> x.kinds(6, 1), x -> x.kinds(0, 6),
                x -> x.guess(6, 0, 1), x -> x.guess(0, 9, 1), x -> x.guess(0, 0, 6), x -> x.listen(6, 1),
                x -> x.listen(0, 6), x -> x.duel(6), x -> x.odds(7, 1), x -> x.odds(1, 13), x -> x.mid(13),
                x -> x.lots(0, 1), x -> x.lots(21, 1), x -> x.lots(1, 0), x -> x.count(11), x -> x.findings(6));
    }

    @Bound(at = "Terms", says = "What is refused changes nothing")
    static void stateAndFullChangeNothing() {
        changeNothing(STATE, x -> x.garden(0), x -> x.water(0), x -> x.water(2), x -> x.pick(2), x -> x.pick(3),
                x -> x.pick(5), x -> x.goat(2));
        BeanVoices x = sown("b013 r014", 39);
        x.keep(1);
        x.pick(0);
        x.plant(0, 3);
        refuses(x, FULL, () -> x.day(), () -> x.water(0), () -> x.pick(0), () -> x.goat(1), () -> x.lots(1, 1));
        due(x.on(1), 39);
        picks(x, 0, 3);
        BeanVoices y = new BeanVoices();
        lay(y, 0, 5);
        refuses(y, STATE, () -> y.day(), () -> y.keep(0), () -> y.ripe(), () -> y.soonest(0, 0), () -> y.ways(0),
                () -> y.none(0), () -> y.often(0), () -> y.duel(1), () -> y.odds(1, 1), () -> y.mid(1),
                () -> y.lots(1, 1));
    }

    @Bound(at = "Terms", says = "nothing but finding(), findings().")
    static void findingsChangeNothingElse() {
        changeNothing(FINDING, x -> x.row(0, -1), x -> x.lay(5, 0, 1), x -> x.lay(0, 3, 1), x -> x.at(5, 0),
                x -> x.at(0, 3), x -> x.tear(5), x -> x.copy(0, 0, 2, 0, -1), x -> x.copy(5, 0, 0, 0, 1),
                x -> x.copy(0, 0, 5, 0, 1), x -> x.copy(0, 2, 2, 0, 2), x -> x.copy(2, 0, 0, 2, 2), x -> x.mean(5),
                x -> x.mean(1), x -> x.text(0, -1), x -> x.put(1, 0, 1), x -> x.put(0, 5, 1), x -> x.fault(1),
                x -> x.garden(1), x -> x.mark(0, 1), x -> x.on(1));
        changeNothing(FINDING, x -> x.soonest(5, 0), x -> x.soonest(2, 0), x -> x.soonest(3, 0), x -> x.ways(5),
                x -> x.ways(2), x -> x.ways(3), x -> x.none(5), x -> x.none(2), x -> x.none(3), x -> x.none(4),
                x -> x.seeds(0, 5), x -> x.seeds(0, 4), x -> x.seeds(0, 2), x -> x.kinds(0, 5), x -> x.kinds(0, 4),
                x -> x.kinds(0, 2), x -> x.guess(0, 0, 5), x -> x.guess(0, 0, 4), x -> x.guess(0, 0, 2),
                x -> x.listen(0, 5), x -> x.listen(0, 4), x -> x.listen(0, 2));
    }

    // ---- findings

    @Bound(at = "Terms", says = "FINDINGS: 1 NOTHING (a ROW, a TEXT, a kept GARDEN that is missing)")
    static void nothingIsOne() {
        BeanVoices x = sown("b010");
        finds(x, 1, () -> x.at(0, 0), () -> x.fault(0), () -> x.on(0), () -> x.seeds(0, 0), () -> x.ways(0));
        due(x.findings(1), 5);
    }

    @Bound(at = "Terms", says = "2 BEYOND (a place that there is not)")
    static void beyondIsTwo() {
        BeanVoices x = new BeanVoices();
        x.row(0, 1);
        x.text(0, 1);
        finds(x, 2, () -> x.at(0, 1), () -> x.lay(0, -1, 1), () -> x.put(0, 1, 1), () -> x.copy(0, 0, 0, 0, 2));
        due(x.findings(2), 4);
    }

    @Bound(at = "Terms", says = "3 UNLIKE (a PLANT of another KIND; a number that is none)")
    static void unlikeIsThree() {
        BeanVoices x = sown("b010");
        lay(x, 0, 10);
        lay(x, 1, 9, 9);
        finds(x, 3, () -> x.mark(0, 1), () -> x.ways(0), () -> x.seeds(0, 1));
        due(x.findings(3), 3);
    }

    @Bound(at = "Terms", says = "4 NOUGHT (shared among none; nothing fits)")
    static void noughtIsFour() {
        BeanVoices x = sown("b010");
        x.row(0, 0);
        lay(x, 1, 5);
        finds(x, 4, () -> x.mean(0), () -> x.none(1));
        due(x.findings(4), 2);
    }

    @Bound(at = "Terms", says = "5 SIZE (fewer than none; not as many as due).")
    static void sizeIsFive() {
        BeanVoices x = sown("b010");
        x.row(0, 1);
        x.row(1, 6);
        finds(x, 5, () -> x.row(0, -1), () -> x.text(0, -1), () -> x.copy(0, 0, 0, 0, -1), () -> x.seeds(0, 0),
                () -> x.ways(1));
        due(x.findings(5), 5);
    }

    // ---- how it is told

    @Bound(at = "Terms", says = "Chances, means, numbers of ways are told by upper(), lower(), in lowest terms")
    static void lowestTerms() {
        BeanVoices x = sown("b013 b015", 1);
        ratio(x, x.odds(2, 6), 1, 4);
        ratio(x, x.odds(1, 6), 3, 4);
        ratio(x, x.odds(1, 8), 5, 9);
        ratio(x, x.odds(2, 1), 121, 144);
        ratio(x, x.mid(6), 13, 4);
        ratio(x, x.mid(4), 4, 1);
        lay(x, 0, 3);
        ratio(x, x.ways(0), 1, 1);
    }

    @Bound(at = "Terms", says = "the lower number above 0 (0 by 1)")
    static void noughtIsToldByOne() {
        BeanVoices x = sown("b010 b010", 1);
        ratio(x, x.odds(2, 12), 0, 1);
        ratio(x, x.odds(3, 5), 0, 1);
        ratio(x, x.odds(6, 0), 0, 1);
        ratio(x, x.mid(5), 0, 1);
        ratio(x, x.mid(12), 0, 1);
        lay(x, 0, 9);
        ratio(x, x.ways(0), 0, 1);
        due(new BeanVoices().lower(), 1);
    }

    @Bound(at = "Terms", says = "Sets (of PLANTS, KINDS, numbers 0 .. 9) are told by bits.")
    static void setsAreBits() {
        BeanVoices x = sown("b010 b010 b010 b010 b010 b019", 1);
        answers(x, x.ripe(), 0b111111, 0b1000000001);
        x.goat(5);
        due(x.count(5), 0b011111);
        x.row(0, 0);
        due(x.seeds(0, 0), 0b1111111111);
        due(x.kinds(0, 0), 0b111111);
        due(x.guess(0, 0, 0), 0b1111111111);
        answers(x, x.none(0), 0b111111, NONE);
    }

    // ---- 1 rows, texts, gardens

    @Bound(at = "Terms", says = "1 ROWS 0 .. 5 are rows of 0 to 40 ints")
    static void rowsOfInts() {
        for (int r = 0; r <= 5; r++) {
            int row = r;
            BeanVoices x = new BeanVoices();
            due(x.row(r, 0), 0);
            rowIs(x, r);
            due(x.row(r, 40), 40);
            tells(x, x.lay(r, 0, LEAST), 0);
            tells(x, x.lay(r, 39, MOST), 0);
            tells(x, x.at(r, 0), LEAST);
            tells(x, x.at(r, 39), MOST);
            finds(x, BEYOND, () -> x.at(row, 40), () -> x.lay(row, 40, 1));
        }
    }

    @Bound(at = "Terms", says = "TEXTS 0 .. 3 rows of 0 to 60 bytes")
    static void textsOfBytes() {
        for (int t = 0; t <= 3; t++) {
            BeanVoices x = new BeanVoices();
            due(x.text(t, 0), 0);
            due(x.put(t, 0, 1), FINDING);
            due(x.text(t, 60), 60);
            due(x.put(t, 0, -128), 1032);
            due(x.put(t, 59, 127), 1032);
            due(x.put(t, 0, 1), 1000 - 128);
            due(x.put(t, 59, 1), 1000 + 127);
            due(x.put(t, 60, 1), FINDING);
            due(x.finding(), BEYOND);
        }
    }

    @Bound(at = "Terms", says = "or missing (at first).")
    static void missingAtFirst() {
        BeanVoices x = new BeanVoices();
        for (int r = 0; r <= 5; r++) {
            due(x.at(r, 0), FINDING);
            due(x.finding(), NOTHING);
        }
        for (int t = 0; t <= 3; t++) {
            due(x.fault(t), FINDING);
            due(x.finding(), NOTHING);
        }
        due(x.findings(NOTHING), 10);
    }

    @Bound(at = "Terms", says = "A GARDEN (without PLANTS at first) is a TEXT:")
    static void noPlantsAtFirst() {
        BeanVoices x = new BeanVoices();
        due(x.count(0), 0);
        refuses(x, BAD, () -> x.plant(0, 0), () -> x.word(0, 0), () -> x.water(0));
        refuses(x, STATE, () -> x.day(), () -> x.ripe());
    }

    private static void fault(String signs, int want) {
        BeanVoices x = written(signs);
        due(x.fault(0), want);
        due(x.garden(0) == STATE ? 1 : 0, want == NONE ? 0 : 1);
    }

    @Bound(at = "Terms", says = "blanks (32) ahead, between, behind as many as wanted")
    static void blanksAround() {
        fault(blanks(56) + "b010", NONE);
        fault("b010" + blanks(56), NONE);
        fault("b010" + blanks(52) + "r010", NONE);
        fault("b010r010d010o010c010s010", NONE);
        fault(blanks(9) + "b010" + blanks(9) + "r010" + blanks(34), NONE);
        fault("\tb010", 0);
        fault("b010\nr010", 4);
        fault("b010" + (char) 0, 4);
        fault("b010" + (char) 160, 4);
        fault("b010" + (char) 31, 4);
        fault("b010" + (char) 33, 4);
    }

    @Bound(at = "Terms", says = "none within items.")
    static void noBlanksWithin() {
        fault("b 010", 1);
        fault("b0 10", 2);
        fault("b01 0", 3);
        fault(" b 010", 2);
        fault("b010 r01 0", 8);
    }

    @Bound(at = "Terms", says = "Items are PLANTS (1 to 6; 0, 1, .. as they come):")
    static void oneToSixPlants() {
        BeanVoices x = sown("s123");
        due(x.count(0), 1);
        plantIs(x, 0, 0, 5);
        due(x.plant(1, 0), BAD);
        BeanVoices y = sown("s019 c018 o017 d016 r015 b014");
        due(y.count(0), 6);
        for (int i = 0; i < 6; i++) {
            plantIs(y, i, 0, 5 - i);
            plantIs(y, i, 3, 9 - i);
        }
        due(y.plant(6, 0), BAD);
    }

    @Bound(at = "Terms", says = "a letter, the START (0 .. 9), the PACE (1 .. 9), the SEED (0 .. 9), one figure each.")
    static void figures() {
        fault("b010", NONE);
        fault("b999", NONE);
        fault("b/10", 1);
        fault("b:10", 1);
        fault("b000", 2);
        fault("b0:0", 2);
        fault("b0/0", 2);
        fault("b01/", 3);
        fault("b01:", 3);
        fault("b0100", 4);
        fault("0100", 0);
        fault("b" + (char) (48 + 128) + "10", 1);
        BeanVoices x = sown("b010 b999");
        int[] least = {0, 1, 0};
        for (int what = 1; what <= 3; what++) {
            plantIs(x, 0, what, least[what - 1]);
            plantIs(x, 1, what, 9);
        }
    }

    @Bound(at = "Terms", says = "A FAULT is the first place at which it can't go on so")
    static void theFirstFault() {
        fault("x010 y", 0);
        fault("b0x0 y", 2);
        fault("b010 xyz", 5);
        fault("bb", 1);
        fault("b010 b00", 7);
    }

    @Bound(at = "Terms", says = "a letter, a figure that is none such, a seventh PLANT: its place")
    static void faultsOfSigns() {
        for (int sign = -128; sign < 128; sign++) {
            boolean letter = LETTERS.indexOf(sign) >= 0;
            BeanVoices x = written("b010");
            x.put(0, 0, sign);
            due(x.fault(0), letter ? NONE : sign == 32 ? 1 : 0);
            for (int part = 1; part <= 3; part++) {
                BeanVoices y = written("b555");
                y.put(0, part, sign);
                due(y.fault(0), sign >= (part == 2 ? 49 : 48) && sign <= 57 ? NONE : part);
            }
        }
        String six = "b010 r010 d010 o010 c010 s010";
        fault(six, NONE);
        fault(six + "b010", 29);
        fault(six + " b010", 30);
        fault(six + blanks(30) + "b", 59);
        fault(six + " x", 30);
        fault(six + " 0", 30);
        fault(six + blanks(31), NONE);
    }

    @Bound(at = "Terms", says = "the TEXT's size, if its end comes too early, or there are blanks alone")
    static void faultsOfTheEnd() {
        fault("", 0);
        fault(" ", 1);
        fault(blanks(60), 60);
        fault("b", 1);
        fault("b0", 2);
        fault("b01", 3);
        fault("b010 r01", 8);
        fault("b010 r", 6);
        fault(blanks(57) + "b01", 60);
        fault(blanks(59) + "b", 60);
    }

    @Bound(at = "Terms", says = "KINDS of PLANTS and letters: 0 BEAN (b, 98), 1 RUNNER (r, 114; a BEAN), 2 DWARF (d, 100;"
            + " a BEAN), 3 BROAD (o, 111; a BEAN), 4 SCARLET (c, 99; a RUNNER), 5 STUTTER (s, 115; a DWARF).")
    static void kindsAndLetters() {
        int[] letters = {98, 114, 100, 111, 99, 115};
        int[][] alsoOf = {{}, {1}, {2}, {3}, {1, 4}, {2, 5}};
        for (int kind = 0; kind < 6; kind++) {
            BeanVoices x = written("?010");
            x.put(0, 0, letters[kind]);
            due(x.garden(0), 1);
            plantIs(x, 0, 0, kind);
            for (int other = 1; other < 6; other++) {
                boolean is = false;
                for (int of : alsoOf[kind]) {
                    is |= of == other;
                }
                due(x.mark(0, other) == FINDING ? 0 : 1, is ? 1 : 0);
            }
        }
    }

    // ---- when pods are ripe

    @Bound(at = "Terms", says = "The AGE of a PLANT is the DAY and its WATER together less its START (0 at least).")
    static void ageIsNoughtAtLeast() {
        for (int i = 0; i < LETTERS.length(); i++) {
            BeanVoices x = sown(LETTERS.charAt(i) + "910");
            plantIs(x, 0, 6, 0);
            due(x.ripe(), 0);
        }
        BeanVoices x = sown("b910 r910 b010");
        waters(x, 0, 9);
        waters(x, 1, 9);
        plantIs(x, 0, 6, 0);
        plantIs(x, 1, 6, 0);
        plantIs(x, 2, 6, 0);
        x.day();
        plantIs(x, 0, 6, 1);
        plantIs(x, 1, 6, 2);
        plantIs(x, 2, 6, 1);
        x.water(2);
        plantIs(x, 2, 6, 2);
        due(sown("d910").mark(0, 2), 0);
        due(sown("r910").mark(0, 1), 0);
    }

    @Bound(at = "Terms", says = "As many PODS are RIPE (0, 1, .. as they come; picked ones, too; 9 at most)"
            + " as AGE by PACE (cut)")
    static void ripeByPace() {
        BeanVoices x = sown("b010 b040 o090");
        for (int day = 0; day <= 39; day++) {
            plantIs(x, 0, 6, Math.min(9, day));
            plantIs(x, 1, 6, Math.min(9, day / 4));
            plantIs(x, 2, 6, day / 9);
            x.day();
        }
        BeanVoices y = sown("b010", 3);
        picks(y, 0, 0, 1);
        plantIs(y, 0, 6, 3);
        picks(y, 0, 2);
        plantIs(y, 0, 6, 3);
        due(y.pick(0), STATE);
    }

    @Bound(at = "Terms", says = "of a RUNNER (SCARLET, too) 1 more, if AGE is above 0")
    static void runnersHaveOneMore() {
        BeanVoices x = sown("r090 c090 r010 c010 r310");
        int[] days = {0, 1, 8, 9, 10};
        int[][] ripe = {{0, 0, 0, 0, 0}, {1, 1, 2, 2, 0}, {1, 1, 9, 9, 6}, {2, 2, 9, 9, 7}, {2, 2, 9, 9, 8}};
        for (int n = 0; n < days.length; n++) {
            days(x, days[n] - x.count(1));
            for (int i = 0; i < 5; i++) {
                plantIs(x, i, 6, ripe[n][i]);
            }
        }
        BeanVoices y = sown("r310", 3);
        plantIs(y, 0, 6, 0);
        y.water(0);
        plantIs(y, 0, 6, 2);
    }

    @Bound(at = "Terms", says = "of a DWARF (STUTTER, too) half (cut) of a BEAN's (so 4 at most).")
    static void dwarfsHaveHalf() {
        BeanVoices x = sown("d010 s010 d030");
        for (int day = 0; day <= 30; day++) {
            plantIs(x, 0, 6, Math.min(4, day / 2));
            plantIs(x, 1, 6, Math.min(4, day / 2));
            plantIs(x, 2, 6, Math.min(4, day / 6));
            x.day();
        }
    }

    @Bound(at = "Terms", says = "A BROAD one can be picked on DAYS of an even number alone.")
    static void broadOnesOnEvenDays() {
        BeanVoices x = sown("o010 b910");
        x.water(0);
        for (int day = 0; day <= 20; day++) {
            due(x.ripe() & 1, day % 2 == 0 ? 1 : 0);
            x.day();
        }
        due(x.pick(0), STATE);
        x.day();
        picks(x, 0, 0);
        BeanVoices y = sown("o010", 38);
        picks(y, 0, 0);
        y.day();
        due(y.pick(0), STATE);
    }

    // ---- what pods say

    private static void says(char letter, int seed, int... words) {
        BeanVoices x = sown(letter + "01" + seed);
        for (int k = 0; k <= 8; k++) {
            due(x.word(0, k), words[k]);
        }
    }

    @Bound(at = "Terms", says = "The WORD (0 .. 9) in POD k is what SEED and k together leave over by 10;")
    static void wordsOfBeans() {
        says('b', 0, 0, 1, 2, 3, 4, 5, 6, 7, 8);
        says('b', 1, 1, 2, 3, 4, 5, 6, 7, 8, 9);
        says('b', 2, 2, 3, 4, 5, 6, 7, 8, 9, 0);
        says('b', 9, 9, 0, 1, 2, 3, 4, 5, 6, 7);
        says('d', 0, 0, 1, 2, 3, 4, 5, 6, 7, 8);
        says('d', 9, 9, 0, 1, 2, 3, 4, 5, 6, 7);
    }

    @Bound(at = "Terms", says = "of a RUNNER SEED and 3 k;")
    static void wordsOfRunners() {
        says('r', 0, 0, 3, 6, 9, 2, 5, 8, 1, 4);
        says('r', 9, 9, 2, 5, 8, 1, 4, 7, 0, 3);
    }

    @Bound(at = "Terms", says = "of a SCARLET 1 more than of a RUNNER (0 behind 9);")
    static void wordsOfScarlets() {
        says('c', 0, 1, 4, 7, 0, 3, 6, 9, 2, 5);
        says('c', 8, 9, 2, 5, 8, 1, 4, 7, 0, 3);
        says('c', 9, 0, 3, 6, 9, 2, 5, 8, 1, 4);
    }

    @Bound(at = "Terms", says = "of a BROAD one SEED and 2 k;")
    static void wordsOfBroadOnes() {
        says('o', 0, 0, 2, 4, 6, 8, 0, 2, 4, 6);
        says('o', 9, 9, 1, 3, 5, 7, 9, 1, 3, 5);
    }

    @Bound(at = "Terms", says = "of a STUTTER that which a DWARF's POD of number k by 2 (cut) would have.")
    static void wordsOfStutters() {
        says('s', 0, 0, 0, 1, 1, 2, 2, 3, 3, 4);
        says('s', 9, 9, 9, 0, 0, 1, 1, 2, 2, 3);
    }

    // ---- 2 deeds

    @Bound(at = "Terms", says = "DAY 0 is at first, WATER is 0, no POD is picked.")
    static void nothingIsDoneAtFirst() {
        BeanVoices x = sown("b010 s010");
        due(x.count(1), 0);
        for (int i = 0; i < 2; i++) {
            plantIs(x, i, 4, 0);
            plantIs(x, i, 5, 0);
            plantIs(x, i, 7, 0);
        }
        due(x.count(6), 10);
    }

    @Bound(at = "Terms", says = "The next POD of a PLANT is the first one not picked;")
    static void nextPods() {
        BeanVoices x = sown("b013 r013", 9);
        picks(x, 0, 3, 4, 5, 6, 7, 8, 9, 0, 1);
        picks(x, 1, 3, 6, 9, 2, 5, 8, 1, 4, 7);
        due(x.ripe(), 0);
        refuses(x, STATE, () -> x.pick(0), () -> x.pick(1));
    }

    @Bound(at = "Terms", says = "it can be PICKED now, if it is RIPE")
    static void onlyWhatIsRipe() {
        BeanVoices x = sown("b020 d010");
        refuses(x, STATE, () -> x.pick(0), () -> x.pick(1));
        x.day();
        refuses(x, STATE, () -> x.pick(0), () -> x.pick(1));
        x.day();
        picks(x, 0, 0);
        picks(x, 1, 0);
        refuses(x, STATE, () -> x.pick(0), () -> x.pick(1));
    }

    @Bound(at = "Terms", says = "(and the PLANT may be picked today, and no goat ate it)")
    static void notEatenNorOnOddDays() {
        BeanVoices x = sown("o010 b010", 2);
        x.goat(1);
        refuses(x, STATE, () -> x.pick(1));
        answers(x, x.ripe(), 1, 1);
        x.day();
        refuses(x, STATE, () -> x.pick(0));
        answers(x, x.ripe(), 0, 0);
        x.undo(2);
        answers(x, x.ripe(), 3, 1);
    }

    @Bound(at = "Terms", says = "What is picked says its WORD.")
    static void picksSayWords() {
        BeanVoices x = sown("c019 s019", 4);
        picks(x, 0, 0);
        due(x.count(6), 0);
        picks(x, 1, 9);
        due(x.count(6), 9);
        picks(x, 1, 9);
        due(x.count(6), 9);
    }

    @Bound(at = "Terms", says = "a PLANT has 1 more of WATER (9 at most)")
    static void nineOfWater() {
        BeanVoices x = sown("b010 b010");
        for (int n = 1; n <= 9; n++) {
            due(x.water(1), n);
        }
        refuses(x, STATE, () -> x.water(1));
        plantIs(x, 1, 4, 9);
        plantIs(x, 0, 4, 0);
    }

    @Bound(at = "Terms", says = "What is done: a DAY passes, a PLANT has 1 more of WATER (9 at most), its next POD is PICKED,"
            + " a goat eats a PLANT. These are DEEDS (40 at most).")
    static void fortyDeeds() {
        BeanVoices x = sown("b010 b010", 28);
        waters(x, 0, 9);
        picks(x, 0, 0);
        due(x.count(2), 38);
        due(x.goat(1), 1);
        due(x.count(2), 39);
        picks(x, 0, 1);
        due(x.count(2), 40);
        refuses(x, FULL, () -> x.day(), () -> x.pick(0), () -> x.goat(0), () -> x.lots(1, 1));
        due(x.count(2), 40);
    }

    @Bound(at = "Terms", says = "A SAYING is a row of WORDS, each that of the next POD of some PLANT as it is PICKED, in order,"
            + " nothing else being picked.")
    static void sayingsInOrder() {
        BeanVoices x = sown("b010 b050", 5);
        int[][] sayings = {{0, 1}, {1}, {1, 0}, {0, 2}, {0, 0}, {0, 0, 1}, {0, 1, 0}, {0, 0, 0}, {0, 1, 2, 3, 4}};
        int[] ways = {1, 0, 0, 0, 2, 2, 1, 0, 1};
        for (int n = 0; n < sayings.length; n++) {
            lay(x, 0, sayings[n]);
            ratio(x, x.ways(0), ways[n], 1);
        }
        picks(x, 0, 0);
        lay(x, 0, 1);
        ratio(x, x.ways(0), 1, 1);
    }

    @Bound(at = "Terms", says = "Its WAYS are rows of PLANTS, one for each WORD;")
    static void waysAreAsLong() {
        BeanVoices x = sown("b010 b010", 3);
        lay(x, 1, 7, 7, 7);
        lay(x, 0, 0, 1, 0, 1, 2);
        due(x.soonest(0, 1), 0);
        rowIs(x, 1, 0, 0, 1, 1, 0);
        x.row(0, 0);
        due(x.soonest(0, 1), 0);
        rowIs(x, 1);
    }

    @Bound(at = "Terms", says = "they go by the first PLANTS, then the second ones, .., lesser numbers ahead.")
    static void waysByLesserNumbers() {
        BeanVoices x = sown("b015 s010 s010 s010", 4);
        lay(x, 0, 0, 0, 0);
        due(x.soonest(0, 1), 0);
        rowIs(x, 1, 1, 1, 2);
        answers(x, x.none(0), 1, 1);
        // the first one has but one pod left that says it
        picks(x, 1, 0);
        due(x.soonest(0, 1), 0);
        rowIs(x, 1, 1, 2, 2);
        picks(x, 1, 0);
        due(x.soonest(0, 1), 0);
        rowIs(x, 1, 2, 2, 3);
        answers(x, x.none(0), 3, 2);
    }

    private static void leaveAll(BeanVoices x, Call... calls) {
        for (Call call : calls) {
            long was = x.digest();
            due(call.on(x) >= 0 ? 1 : 0, 1);
            due(x.digest(), was);
        }
    }

    @Bound(at = "Terms", says = "---- 3 what is ripe (aside).")
    static void lookingAsideChangesNothing() {
        BeanVoices x = sown("b013 r014 o010", 3);
        leaveAll(x, b -> b.ripe(), b -> b.when(0, 8), b -> b.when(2, 8), b -> b.sooner(0, 8, 40), b -> b.sooner(2, 3, 1));
        picks(x, 0, 3);
        picks(x, 1, 4);
        due(x.undo(3), 2);
    }

    @Bound(at = "Terms", says = "nothing else being picked.")
    static void sayingIsNotPicking() {
        BeanVoices x = sown("b013 r014 o010", 4);
        lay(x, 0, 3, 4);
        x.row(1, 0);
        due(x.soonest(0, 2), 0);
        leaveAll(x, b -> b.soonest(0, 2), b -> b.ways(0), b -> b.none(0), b -> b.often(3), b -> b.duel(5),
                b -> b.odds(2, 5), b -> b.mid(5), b -> b.seeds(0, 1), b -> b.kinds(0, 1), b -> b.guess(0, 3, 1),
                b -> b.listen(0, 1));
        picks(x, 0, 3);
        picks(x, 1, 4);
        due(x.undo(4), 2);
    }

    @Bound(at = "Terms", says = "---- 4 sayings (a ROW of 0 to 5 WORDS, 0 .. 9: NOTHING; SIZE: more than 5; UNLIKE: no WORD;"
            + " behind BAD, STATE: no PLANTS).")
    static void sayingsOfFiveWords() {
        BeanVoices bare = new BeanVoices();
        bare.row(0, 6);
        BeanVoices x = sown("b010 b019", 5);
        Call[] asking = {b -> b.soonest(0, 1), b -> b.ways(0), b -> b.none(0)};
        for (Call ask : asking) {
            due(ask.on(bare), STATE);
            x.row(0, 6);
            finds(x, SIZE, () -> ask.on(x));
            lay(x, 0, 0, 1, 2, 3, 10);
            finds(x, UNLIKE, () -> ask.on(x));
            lay(x, 0, -1);
            finds(x, UNLIKE, () -> ask.on(x));
            lay(x, 0, 0, 1, 2, 9, 10, -1);
            finds(x, SIZE, () -> ask.on(x));
            lay(x, 0, 0, 1, 2, 9, 3);
            due(ask.on(x) >= 0 ? 1 : 0, 1);
            x.row(0, 0);
            due(ask.on(x) >= 0 ? 1 : 0, 1);
            x.tear(0);
            finds(x, NOTHING, () -> ask.on(x));
        }
    }

    @Bound(at = "Terms", says = "---- 5 what is in a pod (a ROW of pairs: a POD 0 .. 8, the WORD that it said 0 .. 9).")
    static void pairsOfPodsAndWords() {
        BeanVoices x = sown("b010");
        Call[] asking = {b -> b.seeds(0, 0), b -> b.kinds(0, 0), b -> b.guess(0, 0, 0), b -> b.listen(0, 0)};
        for (Call ask : asking) {
            lay(x, 0, 0, 9, 8, 7);
            due(ask.on(x) >= 0 || ask.on(x) == NONE ? 1 : 0, 1);
            int[][] none = {{9, 0}, {-1, 0}, {0, 10}, {0, -1}};
            for (int[] pair : none) {
                lay(x, 0, pair);
                finds(x, UNLIKE, () -> ask.on(x));
            }
        }
    }

    public static void main(String[] args) {
        runAll(BoundsOfTerms.class);
    }
}
