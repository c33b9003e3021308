/** The sentences of promises 1 to 14: rows, texts, gardens and what a plant is. */
public final class BoundsOfRows extends Bounds {

    // ---- 1 a new object

    @Bound(at = "1", says = "No ROWS, TEXTS, PLANTS.")
    static void newOne() {
        BeanVoices x = new BeanVoices();
        counts(x, 0, 0, 0, 0, 0, 0, 10, 0, 0, 0, 0);
        for (int r = 0; r <= 5; r++) {
            due(x.tear(r), FINDING);
        }
        for (int t = 0; t <= 3; t++) {
            due(x.garden(t), FINDING);
        }
        for (int i = 0; i <= 5; i++) {
            due(x.plant(i, 0), BAD);
        }
        due(x.findings(NOTHING), 10);
    }

    @Bound(at = "1", says = "No ROWS, TEXTS, PLANTS.")
    static void newOneBesideAnother() {
        BeanVoices old = sown("b010", 3);
        lay(old, 0, 7);
        BeanVoices x = new BeanVoices();
        counts(x, 0, 0, 0, 0, 0, 0, 10, 0, 0, 0, 0);
        x.row(0, 2);
        rowIs(old, 0, 7);
        due(old.count(1), 3);
    }

    // ---- 2 row

    @Bound(at = "2", says = "A ROW is there with n ints 0: n.")
    static void rowOfNoughts() {
        BeanVoices x = new BeanVoices();
        due(x.row(0, 0), 0);
        due(x.count(8), 1);
        rowIs(x, 0);
        due(x.row(0, 1), 1);
        rowIs(x, 0, 0);
        due(x.row(5, 40), 40);
        for (int i = 0; i < 40; i++) {
            tells(x, x.at(5, i), 0);
        }
        due(x.count(8), 2);
    }

    @Bound(at = "2", says = "A ROW is there with n ints 0: n.")
    static void rowAnew() {
        BeanVoices x = new BeanVoices();
        lay(x, 2, 1, 2, 3);
        due(x.row(2, 1), 1);
        rowIs(x, 2, 0);
        due(x.row(2, 4), 4);
        rowIs(x, 2, 0, 0, 0, 0);
        x.tear(2);
        due(x.row(2, 3), 3);
        rowIs(x, 2, 0, 0, 0);
        due(x.count(8), 1);
    }

    @Bound(at = "2", says = "BAD:")
    static void rowOfNoNumber() {
        BeanVoices x = new BeanVoices();
        bad(x, NO_ROWS, (o, r) -> o.row(r, 1));
        bad(x, NO_ROWS, (o, r) -> o.row(r, -1));
    }

    @Bound(at = "2", says = "also n above 40;")
    static void rowOfTooMany() {
        BeanVoices x = new BeanVoices();
        lay(x, 0, 5);
        bad(x, new int[] {41, 42, 100, MOST}, (o, n) -> o.row(0, n));
        bad(x, new int[] {41, MOST}, (o, n) -> o.row(1, n));
        rowIs(x, 0, 5);
    }

    @Bound(at = "2", says = "SIZE: below 0.")
    static void rowOfTooFew() {
        BeanVoices x = new BeanVoices();
        lay(x, 0, 5);
        finds(x, SIZE, () -> x.row(0, -1), () -> x.row(0, LEAST), () -> x.row(1, -1), () -> x.row(5, -41));
        rowIs(x, 0, 5);
        due(x.count(8), 1);
    }

    // ---- 3 lay

    @Bound(at = "3", says = "Place i of a ROW is v: what it was, told by asked(): 1.")
    static void layAtBothEnds() {
        BeanVoices x = new BeanVoices();
        x.row(1, 40);
        tells(x, x.lay(1, 0, MOST), 0);
        tells(x, x.lay(1, 0, LEAST), MOST);
        tells(x, x.lay(1, 39, -9), 0);
        tells(x, x.lay(1, 39, 4), -9);
        tells(x, x.lay(1, 0, 0), LEAST);
        tells(x, x.at(1, 38), 0);
        tells(x, x.at(1, 1), 0);
        tells(x, x.at(1, 39), 4);
    }

    @Bound(at = "3", says = "BAD;")
    static void layInNoRow() {
        bad(new BeanVoices(), NO_ROWS, (o, r) -> o.lay(r, 0, 1));
        BeanVoices x = new BeanVoices();
        lay(x, 5, 3);
        bad(x, NO_ROWS, (o, r) -> o.lay(r, 99, 1));
    }

    @Bound(at = "3", says = "NOTHING;")
    static void layInMissingRow() {
        BeanVoices x = new BeanVoices();
        x.row(0, 3);
        x.row(2, 3);
        finds(x, NOTHING, () -> x.lay(1, 0, 1), () -> x.lay(1, -1, 1), () -> x.lay(5, 40, 1));
        x.tear(2);
        finds(x, NOTHING, () -> x.lay(2, 0, 1));
    }

    @Bound(at = "3", says = "BEYOND.")
    static void layBeyond() {
        BeanVoices x = new BeanVoices();
        lay(x, 0, 4, 5);
        x.row(1, 0);
        finds(x, BEYOND, () -> x.lay(0, 2, 1), () -> x.lay(0, -1, 1), () -> x.lay(0, 40, 1), () -> x.lay(0, MOST, 1),
                () -> x.lay(0, LEAST, 1), () -> x.lay(1, 0, 1));
        rowIs(x, 0, 4, 5);
        x.row(0, 1);
        finds(x, BEYOND, () -> x.lay(0, 1, 1));
    }

    // ---- 4 at

    @Bound(at = "4", says = "Place i of a ROW, told by asked(): 1.")
    static void atBothEnds() {
        BeanVoices x = new BeanVoices();
        x.row(0, 40);
        x.lay(0, 0, LEAST);
        x.lay(0, 39, MOST);
        tells(x, x.at(0, 0), LEAST);
        tells(x, x.at(0, 39), MOST);
        tells(x, x.at(0, 1), 0);
        lay(x, 5, -3);
        tells(x, x.at(5, 0), -3);
    }

    @Bound(at = "4", says = "BAD;")
    static void atNoRow() {
        bad(new BeanVoices(), NO_ROWS, (o, r) -> o.at(r, 0));
        bad(new BeanVoices(), NO_ROWS, (o, r) -> o.at(r, -1));
    }

    @Bound(at = "4", says = "NOTHING;")
    static void atMissingRow() {
        BeanVoices x = new BeanVoices();
        finds(x, NOTHING, () -> x.at(0, 0), () -> x.at(5, -1), () -> x.at(3, 40));
        x.row(0, 1);
        x.tear(0);
        finds(x, NOTHING, () -> x.at(0, 0));
    }

    @Bound(at = "4", says = "BEYOND.")
    static void atBeyond() {
        BeanVoices x = new BeanVoices();
        lay(x, 0, 7, 8);
        x.row(1, 0);
        x.at(0, 1);
        finds(x, BEYOND, () -> x.at(0, 2), () -> x.at(0, -1), () -> x.at(0, MOST), () -> x.at(0, LEAST),
                () -> x.at(1, 0));
        x.row(2, 40);
        finds(x, BEYOND, () -> x.at(2, 40), () -> x.at(2, -1));
        due(x.asked(), 8);
    }

    // ---- 5 tear

    @Bound(at = "5", says = "A ROW is missing: 1.")
    static void tearOnce() {
        BeanVoices x = new BeanVoices();
        x.row(0, 0);
        x.row(5, 40);
        due(x.tear(5), 1);
        due(x.count(8), 1);
        due(x.tear(0), 1);
        due(x.count(8), 0);
        finds(x, NOTHING, () -> x.at(5, 0));
    }

    @Bound(at = "5", says = "BAD;")
    static void tearNoRow() {
        BeanVoices x = new BeanVoices();
        x.row(0, 1);
        bad(x, NO_ROWS, (o, r) -> o.tear(r));
    }

    @Bound(at = "5", says = "NOTHING.")
    static void tearTwice() {
        BeanVoices x = new BeanVoices();
        finds(x, NOTHING, () -> x.tear(0), () -> x.tear(5));
        x.row(0, 1);
        due(x.tear(0), 1);
        finds(x, NOTHING, () -> x.tear(0));
    }

    // ---- 6 copy

    @Bound(at = "6", says = "n places of a ROW, from one on, come to those of another one (perhaps itself) from one on")
    static void copyAllAndNone() {
        BeanVoices x = new BeanVoices();
        x.row(0, 40);
        x.row(1, 40);
        x.lay(0, 0, 5);
        x.lay(0, 39, 6);
        due(x.copy(0, 0, 1, 0, 40), 1);
        tells(x, x.at(1, 0), 5);
        tells(x, x.at(1, 39), 6);
        due(x.copy(0, 39, 1, 0, 1), 1);
        tells(x, x.at(1, 0), 6);
        due(x.copy(0, 0, 1, 39, 1), 1);
        tells(x, x.at(1, 39), 5);
        tells(x, x.at(1, 38), 0);
        tells(x, x.at(0, 0), 5);
        due(x.copy(0, 0, 1, 0, 0), 1);
        due(x.copy(0, 40, 1, 40, 0), 1);
        tells(x, x.at(1, 0), 6);
        x.row(2, 0);
        due(x.copy(2, 0, 2, 0, 0), 1);
    }

    @Bound(at = "6", says = "(perhaps itself) from one on, as if taken ahead: 1.")
    static void copyOverItself() {
        BeanVoices x = new BeanVoices();
        lay(x, 0, 1, 2, 3, 4, 5);
        due(x.copy(0, 0, 0, 1, 4), 1);
        rowIs(x, 0, 1, 1, 2, 3, 4);
        lay(x, 0, 1, 2, 3, 4, 5);
        due(x.copy(0, 1, 0, 0, 4), 1);
        rowIs(x, 0, 2, 3, 4, 5, 5);
        due(x.copy(0, 0, 0, 2, 3), 1);
        rowIs(x, 0, 2, 3, 2, 3, 4);
        due(x.copy(0, 0, 0, 0, 5), 1);
        rowIs(x, 0, 2, 3, 2, 3, 4);
    }

    @Bound(at = "6", says = "BAD;")
    static void copyOfNoRow() {
        BeanVoices x = new BeanVoices();
        lay(x, 0, 1);
        bad(x, NO_ROWS, (o, r) -> o.copy(r, 0, 0, 0, 1));
        bad(x, NO_ROWS, (o, r) -> o.copy(0, 0, r, 0, 1));
        bad(x, NO_ROWS, (o, r) -> o.copy(r, 0, 1, 0, -1));
        bad(x, NO_ROWS, (o, r) -> o.copy(1, 9, r, 9, 1));
    }

    @Bound(at = "6", says = "SIZE: n below 0;")
    static void copyOfFewerThanNone() {
        BeanVoices x = new BeanVoices();
        lay(x, 0, 1, 2);
        finds(x, SIZE, () -> x.copy(0, 0, 0, 1, -1), () -> x.copy(0, 0, 0, 0, LEAST), () -> x.copy(0, 2, 0, 2, -2),
                () -> x.copy(1, 0, 0, 0, -1), () -> x.copy(0, 0, 1, 0, -1), () -> x.copy(0, -5, 0, 9, -1));
    }

    @Bound(at = "6", says = "NOTHING: either;")
    static void copyOfMissingRows() {
        BeanVoices x = new BeanVoices();
        lay(x, 0, 1, 2);
        finds(x, NOTHING, () -> x.copy(0, 0, 1, 0, 1), () -> x.copy(1, 0, 0, 0, 1), () -> x.copy(1, 0, 2, 0, 1),
                () -> x.copy(1, 0, 1, 0, 0), () -> x.copy(0, 9, 5, 0, 1), () -> x.copy(5, 0, 0, 9, 1));
        rowIs(x, 0, 1, 2);
    }

    @Bound(at = "6", says = "BEYOND: not so many there.")
    static void copyBeyond() {
        BeanVoices x = new BeanVoices();
        lay(x, 0, 1, 2, 3);
        lay(x, 1, 4, 5);
        x.row(2, 0);
        finds(x, BEYOND, () -> x.copy(0, 0, 1, 0, 3), () -> x.copy(1, 0, 0, 0, 3), () -> x.copy(0, 2, 1, 0, 2),
                () -> x.copy(0, 0, 1, 1, 2), () -> x.copy(0, -1, 1, 0, 1), () -> x.copy(0, 0, 1, -1, 1),
                () -> x.copy(0, 3, 1, 0, 1), () -> x.copy(0, 0, 1, 2, 1), () -> x.copy(2, 0, 0, 0, 1));
        BeanVoices y = new BeanVoices();
        lay(y, 0, 1, 2, 3);
        // sums that would turn round below 0 are still too great
        finds(y, BEYOND, () -> y.copy(0, MOST, 0, 0, 1), () -> y.copy(0, 0, 0, MOST, 1), () -> y.copy(0, 1, 0, 0, MOST),
                () -> y.copy(0, MOST, 0, MOST, MOST), () -> y.copy(0, LEAST, 0, 0, 1), () -> y.copy(0, 0, 0, LEAST, 1),
                () -> y.copy(0, 4, 0, 0, 0), () -> y.copy(0, 0, 0, 4, 0), () -> y.copy(0, -1, 0, 0, 0),
                () -> y.copy(0, 0, 0, -1, 0), () -> y.copy(0, -1, 0, 0, 4));
        rowIs(y, 0, 1, 2, 3);
    }

    // ---- 7 mean

    @Bound(at = "7", says = "The mean of a ROW's ints, cut, told by asked(): 1.")
    static void meanCut() {
        int[][] rows = {{5}, {1, 2}, {2, 3, 3}, {-1, -2}, {-1, 0}, {-2, -3, -3}, {1, -2}, {MOST, MOST}, {LEAST, LEAST},
            {MOST, LEAST}, {0, 0, 0, 1}, {-7, 7}};
        int[] means = {5, 1, 2, -1, 0, -2, 0, MOST, LEAST, 0, 0, 0};
        for (int n = 0; n < rows.length; n++) {
            BeanVoices x = new BeanVoices();
            lay(x, 0, rows[n]);
            x.row(1, 1);
            x.lay(1, 0, 99);
            x.at(1, 0);
            tells(x, x.mean(0), means[n]);
        }
    }

    @Bound(at = "7", says = "The mean of a ROW's ints, cut")
    static void meanOfFortyGreatOnes() {
        for (int value : new int[] {MOST, LEAST}) {
            BeanVoices x = new BeanVoices();
            x.row(0, 40);
            for (int i = 0; i < 40; i++) {
                x.lay(0, i, value);
            }
            tells(x, x.mean(0), value);
            x.lay(0, 0, 0);
            tells(x, x.mean(0), (int) (39L * value / 40));
        }
    }

    @Bound(at = "7", says = "BAD;")
    static void meanOfNoRow() {
        BeanVoices x = new BeanVoices();
        lay(x, 0, 1);
        bad(x, NO_ROWS, (o, r) -> o.mean(r));
    }

    @Bound(at = "7", says = "NOTHING;")
    static void meanOfMissingRow() {
        BeanVoices x = new BeanVoices();
        lay(x, 0, 1);
        finds(x, NOTHING, () -> x.mean(1), () -> x.mean(5));
        x.tear(0);
        finds(x, NOTHING, () -> x.mean(0));
    }

    @Bound(at = "7", says = "NOUGHT.")
    static void meanOfNone() {
        BeanVoices x = new BeanVoices();
        lay(x, 1, 7);
        x.mean(1);
        x.row(0, 0);
        finds(x, NOUGHT, () -> x.mean(0));
        due(x.asked(), 7);
    }

    // ---- 8 text

    @Bound(at = "8", says = "A TEXT is there with n blanks: n.")
    static void textOfBlanks() {
        BeanVoices x = new BeanVoices();
        due(x.text(0, 0), 0);
        due(x.fault(0), 0);
        due(x.text(3, 60), 60);
        for (int i = 0; i < 60; i++) {
            due(x.put(3, i, i), 1032);
        }
        due(x.text(3, 1), 1);
        due(x.put(3, 1, 7), FINDING);
        due(x.text(3, 60), 60);
        for (int i = 0; i < 60; i++) {
            due(x.put(3, i, i), 1032);
        }
        due(x.count(9), 2);
    }

    @Bound(at = "8", says = "BAD:")
    static void textOfNoNumber() {
        bad(new BeanVoices(), NO_TEXTS, (o, t) -> o.text(t, 1));
        bad(new BeanVoices(), NO_TEXTS, (o, t) -> o.text(t, -1));
    }

    @Bound(at = "8", says = "also n above 60;")
    static void textOfTooMany() {
        BeanVoices x = written("b010");
        bad(x, new int[] {61, 62, 100, MOST}, (o, n) -> o.text(0, n));
        bad(x, new int[] {61, MOST}, (o, n) -> o.text(1, n));
        due(x.garden(0), 1);
        due(x.count(9), 1);
    }

    @Bound(at = "8", says = "SIZE: below 0.")
    static void textOfTooFew() {
        BeanVoices x = written("b010");
        finds(x, SIZE, () -> x.text(0, -1), () -> x.text(0, LEAST), () -> x.text(1, -1), () -> x.text(3, -61));
        due(x.garden(0), 1);
        due(x.count(9), 1);
    }

    // ---- 9 put

    @Bound(at = "9", says = "Byte i of a TEXT is v, cut to a byte: what it was, and 1000 more.")
    static void putBytes() {
        BeanVoices x = new BeanVoices();
        x.text(0, 60);
        int[] values = {0, 127, 128, 255, 256, 257, -1, -128, -129, -256, MOST, LEAST, 98, 98 + 256, 98 - 512};
        int[] bytes = {0, 127, -128, -1, 0, 1, -1, -128, 127, 0, -1, 0, 98, 98, 98};
        for (int i : new int[] {0, 59}) {
            int was = 32;
            for (int n = 0; n < values.length; n++) {
                due(x.put(0, i, values[n]), 1000 + was);
                was = bytes[n];
            }
        }
        due(x.put(0, 1, 0), 1032);
        due(x.put(0, 58, 0), 1032);
    }

    @Bound(at = "9", says = "BAD;")
    static void putInNoText() {
        bad(new BeanVoices(), NO_TEXTS, (o, t) -> o.put(t, 0, 1));
        bad(written("b010"), NO_TEXTS, (o, t) -> o.put(t, -1, 1));
    }

    @Bound(at = "9", says = "NOTHING;")
    static void putInMissingText() {
        BeanVoices x = written("b010");
        finds(x, NOTHING, () -> x.put(1, 0, 1), () -> x.put(3, -1, 1), () -> x.put(2, 60, 1));
    }

    @Bound(at = "9", says = "BEYOND.")
    static void putBeyond() {
        BeanVoices x = written("b010");
        x.text(1, 0);
        x.text(2, 60);
        finds(x, BEYOND, () -> x.put(0, 4, 1), () -> x.put(0, -1, 1), () -> x.put(0, MOST, 1), () -> x.put(0, LEAST, 1),
                () -> x.put(1, 0, 1), () -> x.put(2, 60, 1));
    }

    // ---- 10 fault

    @Bound(at = "10", says = "A FAULT of a TEXT;")
    static void faultsOfEachText() {
        for (int t = 0; t <= 3; t++) {
            BeanVoices x = new BeanVoices();
            write(x, t, " b010 b0");
            due(x.fault(t), 8);
            x.put(t, 6, 'x');
            due(x.fault(t), 6);
            due(x.count(0), 0);
        }
    }

    @Bound(at = "10", says = "NONE: there is none.")
    static void noFault() {
        due(written("b010").fault(0), NONE);
        due(written(blanks(3) + "b010s999" + blanks(3)).fault(0), NONE);
        due(written("b010r010d010o010c010s010" + blanks(36)).fault(0), NONE);
    }

    @Bound(at = "10", says = "BAD;")
    static void faultOfNoText() {
        bad(written("b010"), NO_TEXTS, (o, t) -> o.fault(t));
    }

    @Bound(at = "10", says = "NOTHING.")
    static void faultOfMissingText() {
        BeanVoices x = written("b010");
        finds(x, NOTHING, () -> x.fault(1), () -> x.fault(3));
    }

    // ---- 11 garden

    @Bound(at = "11", says = "A GARDEN by a TEXT")
    static void gardenOfOneAndOfSix() {
        BeanVoices x = written("s918");
        due(x.garden(0), 1);
        counts(x, 1);
        write(x, 3, "b010 r121 d232 o343 c454 s565");
        due(x.garden(3), 6);
        counts(x, 6);
        for (int i = 0; i < 6; i++) {
            plantIs(x, i, 0, i);
            plantIs(x, i, 1, i);
            plantIs(x, i, 2, i + 1);
            plantIs(x, i, 3, i);
        }
    }

    @Bound(at = "11", says = "(anew: DAY 0, no WATER, nothing picked, eaten, no DEEDS; kept GARDENS go): how many PLANTS.")
    static void gardenAnew() {
        BeanVoices x = sown("b010 r010 d010", 4);
        x.water(0);
        picks(x, 1, 0, 3);
        x.goat(2);
        for (int k = 0; k < 3; k++) {
            x.keep(k);
        }
        due(x.garden(3), 3);
        counts(x, 3, 0, 0, 0, 0, 7, 10, 1, 0, 1, 0);
        for (int i = 0; i < 3; i++) {
            for (int what = 4; what <= 7; what++) {
                plantIs(x, i, what, 0);
            }
        }
        finds(x, NOTHING, () -> x.on(0), () -> x.on(1), () -> x.on(2));
        due(x.undo(0), 0);
        due(x.undo(1), BAD);
        due(x.day(), 1);
    }

    @Bound(at = "11", says = "kept GARDENS go")
    static void keptGardensGoWithAnotherGarden() {
        BeanVoices x = sown("b010 r010 d010", 4);
        x.keep(1);
        write(x, 0, "s019");
        due(x.garden(0), 1);
        due(x.count(10), 0);
        finds(x, NOTHING, () -> x.on(1));
        due(x.count(0), 1);
        due(x.plant(1, 0), BAD);
    }

    @Bound(at = "11", says = "A GARDEN by a TEXT (anew")
    static void gardenKeepsWhatWasSown() {
        BeanVoices x = sown("b014");
        x.text(3, 60);
        due(x.word(0, 0), 4);
        due(x.count(0), 1);
        due(x.garden(3), STATE);
        due(x.word(0, 0), 4);
    }

    @Bound(at = "11", says = "BAD;")
    static void gardenOfNoText() {
        bad(sown("b010"), NO_TEXTS, (o, t) -> o.garden(t));
    }

    @Bound(at = "11", says = "NOTHING;")
    static void gardenOfMissingText() {
        BeanVoices x = sown("b010", 2);
        x.keep(0);
        finds(x, NOTHING, () -> x.garden(0), () -> x.garden(1), () -> x.garden(2));
        due(x.on(0), 2);
    }

    @Bound(at = "11", says = "STATE: a FAULT.")
    static void gardenOfFaults() {
        String[] faulty = {"", " ", blanks(60), "b", "b01", "x010", "b000", "b010 r", "b010 b010 b010 b010 b010 b010 b"};
        for (String signs : faulty) {
            BeanVoices x = sown("b010", 2);
            x.keep(0);
            x.pick(0);
            write(x, 0, signs);
            refuses(x, STATE, () -> x.garden(0));
            due(x.count(2), 3);
            due(x.on(0), 2);
        }
        due(written("b00").garden(0), STATE);
    }

    @Bound(at = "11", says = "(STATE behind NOTHING.)")
    static void gardenStateBehindNothing() {
        BeanVoices x = new BeanVoices();
        finds(x, NOTHING, () -> x.garden(0));
        x.text(0, 0);
        refuses(x, STATE, () -> x.garden(0));
    }

    // ---- 12 plant

    @Bound(at = "12", says = "Of a PLANT: 0 the KIND, 1 START, 2 PACE, 3 SEED, 4 WATER, 5 PODS picked")
    static void plantFigures() {
        BeanVoices x = sown("b090 s919", 4);
        int[][] values = {{0, 0, 9, 0, 0, 0}, {5, 9, 1, 9, 0, 0}};
        for (int i = 0; i < 2; i++) {
            for (int what = 0; what <= 5; what++) {
                plantIs(x, i, what, values[i][what]);
            }
        }
        waters(x, 1, 9);
        plantIs(x, 1, 4, 9);
        plantIs(x, 0, 4, 0);
        picks(x, 1, 9, 9);
        plantIs(x, 1, 5, 2);
        plantIs(x, 0, 5, 0);
    }

    @Bound(at = "12", says = "5 PODS picked")
    static void nineAreThePodsPicked() {
        BeanVoices x = sown("b010", 9);
        for (int k = 0; k < 9; k++) {
            plantIs(x, 0, 5, k);
            picks(x, 0, k);
        }
        plantIs(x, 0, 5, 9);
        x.pick(0);
        plantIs(x, 0, 5, 9);
    }

    @Bound(at = "12", says = "6 PODS RIPE now (picked ones, too; eaten or not)")
    static void plantRipe() {
        BeanVoices x = sown("b010 o010", 3);
        picks(x, 0, 0, 1, 2);
        plantIs(x, 0, 6, 3);
        x.goat(0);
        plantIs(x, 0, 6, 3);
        x.day();
        plantIs(x, 0, 6, 4);
        plantIs(x, 1, 6, 4);
        x.day();
        plantIs(x, 1, 6, 5);
        days(x, 10);
        plantIs(x, 0, 6, 9);
    }

    @Bound(at = "12", says = "7 whether it was eaten (1, 0), told by asked(): 1.")
    static void plantEaten() {
        BeanVoices x = sown("b010 b010");
        plantIs(x, 0, 7, 0);
        x.goat(1);
        plantIs(x, 0, 7, 0);
        plantIs(x, 1, 7, 1);
        x.undo(0);
        plantIs(x, 1, 7, 0);
    }

    @Bound(at = "12", says = "BAD.")
    static void plantOfNone() {
        BeanVoices x = sown("b010 b010");
        bad(x, NO_PLANTS, (o, i) -> o.plant(i, 0));
        bad(x, new int[] {-1, 8, LEAST, MOST}, (o, what) -> o.plant(1, what));
        bad(new BeanVoices(), new int[] {0, 5}, (o, i) -> o.plant(i, 0));
    }

    // ---- 13 mark

    @Bound(at = "13", says = "What a PLANT that IS of a KIND tells:")
    static void markOfKinds() {
        BeanVoices x = sown("b010 r010 d010 o010 c010 s010", 3);
        int[][] marks = {
            {FINDING, FINDING, FINDING, FINDING, FINDING},
            {1, FINDING, FINDING, FINDING, FINDING},
            {FINDING, 2, FINDING, FINDING, FINDING},
            {FINDING, FINDING, 1, FINDING, FINDING},
            {1, FINDING, FINDING, 11, FINDING},
            {FINDING, 2, FINDING, FINDING, 0}};
        for (int i = 0; i < 6; i++) {
            for (int kind = 1; kind <= 5; kind++) {
                due(x.mark(i, kind), marks[i][kind - 1]);
            }
        }
    }

    @Bound(at = "13", says = "a RUNNER (SCARLET, too) whether it has a POD more than a BEAN would (1, 0; 9 at most of both)")
    static void markOfRunners() {
        BeanVoices x = sown("r010 c010 r110 c930");
        int[] days = {0, 1, 2, 8, 9, 10, 30};
        int[][] marks = {{0, 0, 0, 0}, {1, 1, 0, 0}, {1, 1, 1, 0}, {1, 1, 1, 0}, {0, 0, 1, 0}, {0, 0, 0, 1}, {0, 0, 0, 1}};
        for (int n = 0; n < days.length; n++) {
            days(x, days[n] - x.count(1));
            for (int i = 0; i < 4; i++) {
                due(x.mark(i, 1), marks[n][i]);
            }
        }
    }

    @Bound(at = "13", says = "a DWARF (STUTTER, too) how many PODS fewer RIPE than a BEAN's")
    static void markOfDwarfs() {
        BeanVoices x = sown("d010 s010");
        int[] marks = {0, 1, 1, 2, 2, 3, 3, 4, 4, 5, 5, 5};
        for (int day = 0; day < marks.length; day++) {
            due(x.mark(0, 2), marks[day]);
            due(x.mark(1, 2), marks[day]);
            x.day();
        }
        days(x, 20);
        due(x.mark(0, 2), 5);
    }

    @Bound(at = "13", says = "a BROAD one in how many DAYS it may be picked (0: today)")
    static void markOfBroadOnes() {
        BeanVoices x = sown("o990");
        for (int day = 0; day <= 40; day++) {
            due(x.mark(0, 3), day % 2);
            x.day();
        }
    }

    @Bound(at = "13", says = "a SCARLET the WORD of POD 0 less that of a RUNNER's (perhaps below 0), and 10")
    static void markOfScarlets() {
        for (int seed = 0; seed <= 9; seed++) {
            due(sown("c01" + seed).mark(0, 4), seed == 9 ? 1 : 11);
        }
    }

    @Bound(at = "13", says = "a STUTTER whether its next POD says the WORD that it said last")
    static void markOfStutters() {
        BeanVoices x = sown("s019 s010", 8);
        int[] marks = {0, 1, 0, 1};
        int[] words = {9, 9, 0, 0};
        for (int k = 0; k < 4; k++) {
            due(x.mark(0, 5), marks[k]);
            picks(x, 0, words[k]);
        }
        // what another one said last does not count
        BeanVoices y = sown("s010 b010", 4);
        picks(y, 0, 0);
        picks(y, 1, 0, 1);
        due(y.mark(0, 5), 1);
    }

    @Bound(at = "13", says = "(1, 0; 0, too, if it said none, or has no next one)")
    static void markOfStuttersWithNone() {
        BeanVoices x = sown("s010", 8);
        due(x.mark(0, 5), 0);
        picks(x, 0, 0, 0, 1, 1);
        due(x.mark(0, 5), 0);
        x.undo(9);
        due(x.mark(0, 5), 1);
        x.undo(8);
        due(x.mark(0, 5), 0);
    }

    @Bound(at = "13", says = "BAD: also KIND 0;")
    static void markOfNoKind() {
        BeanVoices x = sown("b010 r010");
        bad(x, NO_PLANTS, (o, i) -> o.mark(i, 1));
        bad(x, new int[] {0, -1, 6, LEAST, MOST}, (o, kind) -> o.mark(1, kind));
        bad(x, new int[] {0, 6}, (o, kind) -> o.mark(0, kind));
        bad(new BeanVoices(), new int[] {0}, (o, i) -> o.mark(i, 1));
    }

    @Bound(at = "13", says = "UNLIKE.")
    static void markOfAnotherKind() {
        BeanVoices x = sown("b010 r010 d010 o010 c010 s010");
        finds(x, UNLIKE, () -> x.mark(0, 1), () -> x.mark(0, 5), () -> x.mark(1, 4), () -> x.mark(2, 5),
                () -> x.mark(3, 1), () -> x.mark(4, 2), () -> x.mark(4, 5), () -> x.mark(5, 1), () -> x.mark(5, 4));
    }

    // ---- 14 word

    @Bound(at = "14", says = "The WORD of POD k (0 .. 8) of a PLANT.")
    static void wordsOfFirstAndLastPods() {
        BeanVoices x = sown("b919 r919 d919 o919 c919 s919");
        int[] first = {9, 9, 9, 9, 0, 9};
        int[] last = {7, 3, 7, 5, 4, 3};
        for (int i = 0; i < 6; i++) {
            due(x.word(i, 0), first[i]);
            due(x.word(i, 8), last[i]);
        }
        x.goat(5);
        due(x.word(5, 8), 3);
    }

    @Bound(at = "14", says = "BAD.")
    static void wordOfNone() {
        BeanVoices x = sown("b010 r010");
        bad(x, NO_PLANTS, (o, i) -> o.word(i, 0));
        bad(x, NO_PODS, (o, k) -> o.word(1, k));
        bad(new BeanVoices(), new int[] {0}, (o, i) -> o.word(i, 0));
    }

    public static void main(String[] args) {
        runAll(BoundsOfRows.class);
    }
}
