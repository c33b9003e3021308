/** Each promise of the document by hand: ordinary inputs, the edges that it names, wrong inputs. */
public final class Promises {
    private static final int BAD = -1, FULL = -2, FINDING = -3, STATE = -4, NONE = -9;
    private static final int NOTHING = 1, BEYOND = 2, UNLIKE = 3, NOUGHT = 4, SIZE = 5;
    private static final int LEAST = Integer.MIN_VALUE, MOST = Integer.MAX_VALUE;

    private static int wrong = 0;
    private static int promise = 0;

    private static void due(String what, long got, long want) {
        if (got != want) {
            wrong++;
            System.out.println("promise " + promise + ": " + what + " answered " + got + ", due is " + want);
        }
    }

    /** An answer FINDING, which one, and that no other number told it. */
    private static void finds(BeanVoices x, String what, int got, int finding) {
        due(what, got, FINDING);
        due(what + ", finding()", x.finding(), finding);
    }

    private static void write(BeanVoices x, int t, String signs) {
        x.text(t, signs.length());
        for (int i = 0; i < signs.length(); i++) {
            x.put(t, i, signs.charAt(i));
        }
    }

    private static BeanVoices garden(String signs) {
        BeanVoices x = new BeanVoices();
        write(x, 3, signs);
        due("garden " + signs, x.garden(3), signs.replace(" ", "").length() / 4);
        return x;
    }

    private static void days(BeanVoices x, int n) {
        for (int i = 0; i < n; i++) {
            x.day();
        }
    }

    private static void lay(BeanVoices x, int r, int... values) {
        x.row(r, values.length);
        for (int i = 0; i < values.length; i++) {
            x.lay(r, i, values[i]);
        }
    }

    private static int asked(BeanVoices x, int answer) {
        due("answer ahead of asked()", answer, 1);
        return x.asked();
    }

    private static void ratio(BeanVoices x, String what, int answer, long upper, long lower) {
        due(what, answer, 1);
        due(what + ", upper()", x.upper(), upper);
        due(what + ", lower()", x.lower(), lower);
    }

    private static void p1() {
        BeanVoices x = new BeanVoices();
        for (int what = 0; what <= 10; what++) {
            due("count " + what, x.count(what), what == 6 ? 10 : 0);
        }
        for (int r = 0; r < 6; r++) {
            finds(x, "at", x.at(r, 0), NOTHING);
        }
        for (int t = 0; t < 4; t++) {
            finds(x, "fault", x.fault(t), NOTHING);
        }
        due("plant", x.plant(0, 0), BAD);
    }

    private static void p2row() {
        BeanVoices x = new BeanVoices();
        due("row", x.row(0, 0), 0);
        due("row", x.row(5, 40), 40);
        due("last place", asked(x, x.at(5, 39)), 0);
        x.lay(5, 39, 8);
        due("row anew", x.row(5, 40), 40);
        due("is 0 again", asked(x, x.at(5, 39)), 0);
        due("41", x.row(5, 41), BAD);
        due("r 6", x.row(6, 1), BAD);
        due("r -1, n -1", x.row(-1, -1), BAD);
        due("most", x.row(0, MOST), BAD);
        finds(x, "n -1", x.row(5, -1), SIZE);
        finds(x, "n least", x.row(5, LEAST), SIZE);
        due("refused changes nothing", x.row(5, -1) == FINDING ? x.at(5, 39) : 0, 1);
    }

    private static void p3lay() {
        BeanVoices x = new BeanVoices();
        x.row(2, 3);
        due("lay", x.lay(2, 1, -7), 1);
        due("was", x.asked(), 0);
        due("lay", x.lay(2, 1, LEAST), 1);
        due("was", x.asked(), -7);
        due("is", asked(x, x.at(2, 1)), LEAST);
        due("beside", asked(x, x.at(2, 0)), 0);
        due("r", x.lay(6, 0, 1), BAD);
        due("r", x.lay(-1, 0, 1), BAD);
        finds(x, "missing", x.lay(0, 99, 1), NOTHING);
        finds(x, "3", x.lay(2, 3, 1), BEYOND);
        finds(x, "-1", x.lay(2, -1, 1), BEYOND);
        finds(x, "least", x.lay(2, LEAST, 1), BEYOND);
    }

    private static void p4at() {
        BeanVoices x = new BeanVoices();
        lay(x, 0, 4, 5, 6);
        due("first", asked(x, x.at(0, 0)), 4);
        due("last", asked(x, x.at(0, 2)), 6);
        due("r", x.at(6, 0), BAD);
        due("r", x.at(LEAST, 0), BAD);
        finds(x, "missing", x.at(1, -1), NOTHING);
        finds(x, "3", x.at(0, 3), BEYOND);
        finds(x, "-1", x.at(0, -1), BEYOND);
        due("refused tells nothing", x.asked(), 6);
    }

    private static void p5tear() {
        BeanVoices x = new BeanVoices();
        x.row(3, 0);
        due("tear", x.tear(3), 1);
        due("rows", x.count(8), 0);
        finds(x, "again", x.tear(3), NOTHING);
        due("r", x.tear(6), BAD);
        due("r", x.tear(-1), BAD);
    }

    private static void p6copy() {
        BeanVoices x = new BeanVoices();
        lay(x, 0, 1, 2, 3, 4, 5);
        x.row(1, 3);
        due("copy", x.copy(0, 3, 1, 1, 2), 1);
        due("place 0", asked(x, x.at(1, 0)), 0);
        due("place 1", asked(x, x.at(1, 1)), 4);
        due("place 2", asked(x, x.at(1, 2)), 5);
        due("forth", x.copy(0, 0, 0, 1, 4), 1);
        int[] forth = {1, 1, 2, 3, 4};
        for (int i = 0; i < 5; i++) {
            due("forth " + i, asked(x, x.at(0, i)), forth[i]);
        }
        due("back", x.copy(0, 1, 0, 0, 4), 1);
        int[] back = {1, 2, 3, 4, 4};
        for (int i = 0; i < 5; i++) {
            due("back " + i, asked(x, x.at(0, i)), back[i]);
        }
        due("none at the end", x.copy(0, 5, 1, 3, 0), 1);
        finds(x, "too many there", x.copy(0, 4, 1, 0, 2), BEYOND);
        finds(x, "too many here", x.copy(0, 0, 1, 2, 2), BEYOND);
        finds(x, "i -1", x.copy(0, -1, 1, 0, 1), BEYOND);
        finds(x, "j -1", x.copy(0, 0, 1, -1, 1), BEYOND);
        finds(x, "most", x.copy(0, 1, 1, 0, MOST), BEYOND);
        finds(x, "most", x.copy(0, MOST, 1, 0, 1), BEYOND);
        finds(x, "none behind the end", x.copy(0, 6, 1, 0, 0), BEYOND);
        finds(x, "missing", x.copy(2, 99, 0, 0, 1), NOTHING);
        finds(x, "missing", x.copy(0, 99, 2, 0, 1), NOTHING);
        finds(x, "n -1 ahead of missing", x.copy(2, 0, 2, 0, -1), SIZE);
        due("r", x.copy(6, 0, 0, 0, -1), BAD);
        due("to", x.copy(0, 0, -1, 0, 0), BAD);
    }

    private static void p7mean() {
        BeanVoices x = new BeanVoices();
        lay(x, 0, 3, 4, 4);
        due("cut", asked(x, x.mean(0)), 3);
        lay(x, 0, -3, -4, -4);
        due("cut below 0", asked(x, x.mean(0)), -3);
        lay(x, 0, MOST, MOST, MOST);
        due("great", asked(x, x.mean(0)), MOST);
        lay(x, 0, LEAST, LEAST, LEAST);
        due("little", asked(x, x.mean(0)), LEAST);
        x.row(1, 0);
        finds(x, "of none", x.mean(1), NOUGHT);
        finds(x, "missing", x.mean(2), NOTHING);
        due("r", x.mean(6), BAD);
    }

    private static void p8text() {
        BeanVoices x = new BeanVoices();
        due("text", x.text(0, 60), 60);
        due("blank", x.put(0, 59, 1), 1032);
        due("anew", x.text(0, 60), 60);
        due("blank", x.put(0, 59, 1), 1032);
        due("none", x.text(3, 0), 0);
        due("61", x.text(0, 61), BAD);
        due("t", x.text(4, 1), BAD);
        due("t", x.text(-1, -1), BAD);
        finds(x, "-1", x.text(0, -1), SIZE);
        due("texts", x.count(9), 2);
    }

    private static void p9put() {
        BeanVoices x = new BeanVoices();
        x.text(1, 2);
        due("put", x.put(1, 0, 127), 1032);
        due("127", x.put(1, 0, 128), 1127);
        due("128 is -128", x.put(1, 0, 255), 872);
        due("255 is -1", x.put(1, 0, 256 + 7), 999);
        due("263 is 7", x.put(1, 0, MOST), 1007);
        due("most is -1", x.put(1, 0, LEAST), 999);
        due("least is 0", x.put(1, 0, 0), 1000);
        due("t", x.put(4, 0, 0), BAD);
        due("t", x.put(-1, 0, 0), BAD);
        finds(x, "missing", x.put(0, -1, 0), NOTHING);
        finds(x, "2", x.put(1, 2, 0), BEYOND);
        finds(x, "-1", x.put(1, -1, 0), BEYOND);
    }

    private static void fault(String signs, int want) {
        BeanVoices x = new BeanVoices();
        write(x, 0, signs);
        due("fault of '" + signs + "'", x.fault(0), want);
    }

    private static void p10fault() {
        fault("b019", NONE);
        fault("  b990c018 r110  s010o010d010   ", NONE);
        fault("", 0);
        fault("   ", 3);
        fault("b", 1);
        fault("b0", 2);
        fault("b01", 3);
        fault("b 011", 1);
        fault("b0 11", 2);
        fault("b01 1", 3);
        fault("b001", 2);
        fault("b:11", 1);
        fault("b/11", 1);
        fault("b0:1", 2);
        fault("b01:", 3);
        fault("B011", 0);
        fault("a011", 0);
        fault("b0111", 4);
        fault("b011 b011 b011 b011 b011 b011 b011", 30);
        fault("b011 b011 b011 b011 b011 b011   ", NONE);
        fault("b011 b011 b011 b011 b011 b011  9", 31);
        fault("b011 c", 6);
        fault("b011\tr011", 4);
        fault((char) (98 + 256) + "011", NONE);
        fault((char) 0xe2 + "011", 0);
        BeanVoices x = new BeanVoices();
        finds(x, "missing", x.fault(0), NOTHING);
        due("t", x.fault(4), BAD);
        due("t", x.fault(-1), BAD);
    }

    private static void p11garden() {
        BeanVoices x = garden("b011 r011");
        x.day();
        x.pick(0);
        x.water(0);
        x.goat(1);
        x.keep(1);
        write(x, 0, "b011 x");
        due("a fault", x.garden(0), STATE);
        due("still there", x.count(2), 4);
        finds(x, "missing", x.garden(2), NOTHING);
        due("t", x.garden(4), BAD);
        due("t", x.garden(-1), BAD);
        write(x, 0, "s123");
        due("anew", x.garden(0), 1);
        int[] counts = {1, 0, 0, 0, 0, 1, 10, 0, 0, 2, 0};
        for (int what = 0; what <= 10; what++) {
            due("count " + what, x.count(what), counts[what]);
        }
        finds(x, "kept ones went", x.on(1), NOTHING);
        int[] values = {5, 1, 2, 3, 0, 0, 0, 0};
        for (int what = 0; what <= 7; what++) {
            due("plant " + what, asked(x, x.plant(0, what)), values[what]);
        }
        x.put(0, 0, 'z');
        due("the text is no longer looked at", x.word(0, 2), 4);
    }

    private static void p12plant() {
        BeanVoices x = garden("b011 r123 d345 o078 c567 s910");
        int[][] values = {{0, 0, 1, 1}, {1, 1, 2, 3}, {2, 3, 4, 5}, {3, 0, 7, 8}, {4, 5, 6, 7}, {5, 9, 1, 0}};
        for (int i = 0; i < 6; i++) {
            for (int what = 0; what < 4; what++) {
                due("plant " + i + " " + what, asked(x, x.plant(i, what)), values[i][what]);
            }
        }
        days(x, 20);
        int[] ripe = {9, 9, 2, 2, 3, 4};
        for (int i = 0; i < 6; i++) {
            due("ripe " + i, asked(x, x.plant(i, 6)), ripe[i]);
        }
        x.water(2);
        x.water(2);
        x.water(2);
        due("water", asked(x, x.plant(2, 4)), 3);
        due("ripe by water", asked(x, x.plant(2, 6)), 2);
        x.pick(2);
        due("picked", asked(x, x.plant(2, 5)), 1);
        due("picked ones, too", asked(x, x.plant(2, 6)), 2);
        due("not eaten", asked(x, x.plant(2, 7)), 0);
        x.goat(2);
        due("eaten", asked(x, x.plant(2, 7)), 1);
        due("ripe, eaten or not", asked(x, x.plant(2, 6)), 2);
        due("i", x.plant(6, 0), BAD);
        due("i", x.plant(-1, 0), BAD);
        due("what", x.plant(0, 8), BAD);
        due("what", x.plant(0, -1), BAD);
        due("refused tells nothing", x.asked(), 2);
    }

    private static void p13mark() {
        BeanVoices x = garden("b010 r129 d010 o010 c119 s015");
        due("a runner of age 0", x.mark(1, 1), 0);
        days(x, 2);
        due("a runner", x.mark(1, 1), 1);
        due("a scarlet is a runner", x.mark(4, 1), 1);
        due("broad today", x.mark(3, 3), 0);
        x.day();
        due("broad tomorrow", x.mark(3, 3), 1);
        due("dwarf", x.mark(2, 2), 2);
        due("a stutter is a dwarf", x.mark(5, 2), 2);
        due("scarlet behind 9", x.mark(4, 4), 1);
        due("said none", x.mark(5, 5), 0);
        x.pick(5);
        due("again", x.mark(5, 5), 1);
        x.day();
        x.pick(5);
        due("not again", x.mark(5, 5), 0);
        days(x, 6);
        due("dwarf of ten", x.mark(2, 2), 5);
        due("9 of both", x.mark(4, 1), 0);
        due("still one more", x.mark(1, 1), 1);
        finds(x, "a bean", x.mark(0, 1), UNLIKE);
        finds(x, "a runner is no scarlet", x.mark(1, 4), UNLIKE);
        finds(x, "a dwarf is no stutter", x.mark(2, 5), UNLIKE);
        finds(x, "a broad one is no runner", x.mark(3, 1), UNLIKE);
        finds(x, "a stutter is no broad one", x.mark(5, 3), UNLIKE);
        due("kind 0", x.mark(0, 0), BAD);
        due("kind 6", x.mark(0, 6), BAD);
        due("kind -1", x.mark(0, -1), BAD);
        due("i", x.mark(6, 1), BAD);
        due("scarlet else", garden("c113").mark(0, 4), 11);
    }

    private static void p14word() {
        BeanVoices x = garden("b017 r017 d017 o017 c017 s017");
        int[][] words = {{7, 8, 9, 0, 1, 2, 3, 4, 5}, {7, 0, 3, 6, 9, 2, 5, 8, 1}, {7, 8, 9, 0, 1, 2, 3, 4, 5},
            {7, 9, 1, 3, 5, 7, 9, 1, 3}, {8, 1, 4, 7, 0, 3, 6, 9, 2}, {7, 7, 8, 8, 9, 9, 0, 0, 1}};
        for (int i = 0; i < 6; i++) {
            for (int k = 0; k < 9; k++) {
                due("word " + i + " " + k, x.word(i, k), words[i][k]);
            }
        }
        due("k", x.word(0, 9), BAD);
        due("k", x.word(0, -1), BAD);
        due("i", x.word(6, 0), BAD);
        due("i", x.word(-1, 0), BAD);
    }

    private static void p15day() {
        BeanVoices x = new BeanVoices();
        due("no plants", x.day(), STATE);
        x = garden("b010");
        for (int d = 1; d <= 40; d++) {
            due("day", x.day(), d);
        }
        due("41st", x.day(), FULL);
        due("day stays", x.count(1), 40);
    }

    private static void p16water() {
        BeanVoices x = garden("b010 b010");
        for (int w = 1; w <= 9; w++) {
            due("water", x.water(0), w);
        }
        due("tenth", x.water(0), STATE);
        x.goat(1);
        due("eaten", x.water(1), STATE);
        due("i", x.water(2), BAD);
        due("i", x.water(-1), BAD);
        x = garden("b010 b010");
        days(x, 31);
        for (int w = 1; w <= 9; w++) {
            x.water(0);
        }
        due("full", x.water(1), FULL);
        due("full behind state", x.water(0), STATE);
        due("full behind bad", x.water(2), BAD);
    }

    private static void p17pick() {
        BeanVoices x = garden("b013 o014 r015");
        due("not ripe", x.pick(0), STATE);
        x.day();
        due("pick", x.pick(0), 3);
        due("no more ripe", x.pick(0), STATE);
        due("broad on an odd day", x.pick(1), STATE);
        due("runner", x.pick(2), 5);
        due("runner's second", x.pick(2), 8);
        due("no third", x.pick(2), STATE);
        x.day();
        due("broad", x.pick(1), 4);
        due("broad", x.pick(1), 6);
        due("next word", x.pick(0), 4);
        x.goat(2);
        due("eaten", x.pick(2), STATE);
        due("i", x.pick(3), BAD);
        due("i", x.pick(-1), BAD);
        x = garden("b013");
        days(x, 40);
        due("full", x.pick(0), FULL);
        x = garden("b013 b013");
        days(x, 22);
        for (int k = 0; k < 9; k++) {
            due("pod " + k, x.pick(0), (3 + k) % 10);
        }
        due("nine at most", x.pick(0), STATE);
        days(x, 9);
        due("full behind state", x.pick(0), STATE);
        due("full behind bad", x.pick(2), BAD);
    }

    private static void p18goat() {
        BeanVoices x = garden("b013 o014 r015");
        due("goat", x.goat(1), 2);
        due("again", x.goat(1), STATE);
        due("goat", x.goat(0), 1);
        due("goat", x.goat(2), 0);
        due("i", x.goat(3), BAD);
        due("i", x.goat(-1), BAD);
        days(x, 37);
        due("full behind state", x.goat(1), STATE);
        x.undo(1);
        days(x, 39);
        due("full", x.goat(0), FULL);
    }

    private static void p19undo() {
        BeanVoices x = new BeanVoices();
        due("none", x.undo(0), 0);
        due("n", x.undo(1), BAD);
        x = garden("b013 r014");
        x.day();
        x.pick(0);
        x.water(1);
        x.pick(1);
        x.goat(1);
        due("past the last", x.undo(6), BAD);
        due("n", x.undo(-1), BAD);
        due("behind the last", x.undo(5), 0);
        due("the goat", x.undo(4), 1);
        due("not eaten", x.count(5), 3);
        due("said", x.count(6), 4);
        due("a pick", x.undo(3), 1);
        due("said ahead of it", x.count(6), 3);
        due("picked", x.count(3), 1);
        due("the rest", x.undo(0), 3);
        due("said none", x.count(6), 10);
        due("day", x.count(1), 0);
        due("water", x.count(4), 0);
        due("deeds", x.count(2), 0);
    }

    private static void p20and21keepOn() {
        BeanVoices x = new BeanVoices();
        due("k", x.keep(3), BAD);
        due("no plants", x.keep(0), STATE);
        due("k", x.on(-1), BAD);
        finds(x, "never kept", x.on(0), NOTHING);
        x = garden("b013 r014");
        due("k", x.keep(-1), BAD);
        due("keep", x.keep(0), 0);
        x.day();
        x.pick(1);
        x.water(0);
        due("keep", x.keep(2), 3);
        x.goat(0);
        x.undo(1);
        due("on", x.on(2), 3);
        due("picked", x.count(3), 1);
        due("said", x.count(6), 4);
        due("water", x.count(4), 1);
        due("left", x.count(5), 3);
        x.day();
        due("going on leaves what was kept", x.on(2), 3);
        due("day", x.count(1), 1);
        due("its deeds can be undone", x.undo(1), 2);
        due("on the first", x.on(0), 0);
        due("day", x.count(1), 0);
        due("said", x.count(6), 10);
        due("kept over", x.keep(2), 0);
        due("kept", x.count(10), 2);
        finds(x, "between", x.on(1), NOTHING);
        due("k", x.on(3), BAD);
    }

    private static void p22ripe() {
        BeanVoices x = new BeanVoices();
        due("no plants", x.ripe(), STATE);
        x = garden("b013 o019 r013 d010");
        due("none", x.ripe(), 0);
        due("words", x.asked(), 0);
        x.day();
        due("b, r", x.ripe(), 5);
        due("words", x.asked(), 8);
        x.day();
        due("all", x.ripe(), 15);
        due("words", x.asked(), 8 + 512 + 1);
        x.pick(3);
        x.goat(1);
        due("b, r", x.ripe(), 5);
    }

    private static void p23when() {
        BeanVoices x = garden("b990 r990 o031 d011 s010");
        due("bean", x.when(0, 8), 90);
        due("runner", x.when(1, 0), 10);
        due("runner", x.when(1, 1), 18);
        due("broad, on the even day behind", x.when(2, 0), 4);
        due("broad", x.when(2, 1), 6);
        due("dwarf", x.when(3, 0), 2);
        due("dwarf", x.when(3, 3), 8);
        due("dwarf has four", x.when(3, 4), NONE);
        due("stutter has four", x.when(4, 8), NONE);
        x.water(0);
        due("water", x.when(0, 8), 89);
        days(x, 4);
        due("ripe", x.when(2, 0), 0);
        x.pick(2);
        due("picked", x.when(2, 0), 0);
        x.day();
        due("odd", x.when(2, 0), 1);
        x.goat(2);
        due("eaten", x.when(2, 0), NONE);
        due("k", x.when(0, 9), BAD);
        due("k", x.when(0, -1), BAD);
        due("i", x.when(5, 0), BAD);
    }

    private static void p24sooner() {
        BeanVoices x = garden("b990 o031 d011");
        due("by nine", x.sooner(0, 0, 9), 9);
        due("by none", x.sooner(0, 0, 8), NONE);
        due("without", x.sooner(0, 0, 18), 0);
        due("one", x.sooner(0, 0, 17), 1);
        due("broad on day 2", x.sooner(1, 0, 3), 1);
        due("broad today", x.sooner(1, 0, 0), 3);
        due("dwarf", x.sooner(2, 3, 0), 8);
        due("dwarf", x.sooner(2, 4, 40), NONE);
        x.water(0);
        x.water(0);
        due("seven more", x.sooner(0, 0, 9), 7);
        due("9 in all", x.sooner(0, 0, 8), NONE);
        x.goat(1);
        due("eaten", x.sooner(1, 0, 40), NONE);
        due("n", x.sooner(0, 0, 41), BAD);
        due("n", x.sooner(0, 0, -1), BAD);
        due("k", x.sooner(0, 9, 0), BAD);
        due("k", x.sooner(0, -1, 0), BAD);
        due("i", x.sooner(3, 0, 0), BAD);
    }

    /** What the calls of sayings refuse alike; r is the row of the saying. */
    private interface Asking {
        int ask(BeanVoices x, int r);
    }

    private static void sayingRefused(Asking a) {
        BeanVoices x = new BeanVoices();
        due("r", a.ask(x, 6), BAD);
        due("r", a.ask(x, -1), BAD);
        due("no plants ahead of missing", a.ask(x, 0), STATE);
        x = garden("b010");
        finds(x, "missing", a.ask(x, 0), NOTHING);
        lay(x, 0, 0, 1, 2, 3, 4, 99);
        finds(x, "six", a.ask(x, 0), SIZE);
        lay(x, 0, 0, 10);
        finds(x, "10", a.ask(x, 0), UNLIKE);
        lay(x, 0, -1, 0);
        finds(x, "-1", a.ask(x, 0), UNLIKE);
    }

    private static void p25soonest() {
        sayingRefused((x, r) -> x.soonest(r, 1));
        BeanVoices x = garden("b021 b011 o011 s071");
        due("to", x.soonest(0, 6), BAD);
        due("to", x.soonest(0, -1), BAD);
        lay(x, 0, 1);
        due("one", x.soonest(0, 1), 1);
        due("by the second", asked(x, x.at(1, 0)), 1);
        lay(x, 0, 1, 1);
        due("two on even days", x.soonest(0, 1), 2);
        due("first way, by one that is ripe later", asked(x, x.at(1, 0)), 0);
        due("first way", asked(x, x.at(1, 1)), 1);
        finds(x, "as long as the saying", x.at(1, 2), BEYOND);
        lay(x, 0, 1, 2, 3, 4, 5);
        due("five", x.soonest(0, 0), 5);
        for (int i = 0; i < 5; i++) {
            due("the same row " + i, asked(x, x.at(0, i)), 1);
        }
        lay(x, 0, 9);
        due("never next", x.soonest(0, 1), NONE);
        due("the row stays", asked(x, x.at(1, 1)), 1);
        x.row(0, 0);
        due("no words", x.soonest(0, 4), 0);
        finds(x, "a row of none", x.at(4, 0), BEYOND);
        x.goat(0);
        x.goat(1);
        lay(x, 0, 1);
        due("eaten", x.soonest(0, 1), 2);
        due("by the broad one", asked(x, x.at(1, 0)), 2);
        x = garden("b690");
        lay(x, 0, 0, 1, 2, 3, 4);
        due("51", x.soonest(0, 1), 51);
        x = garden("b993 b993");
        lay(x, 0, 3, 4, 5, 6);
        due("45", x.soonest(0, 1), 45);
        lay(x, 0, 3, 4, 5, 6, 7);
        due("54", x.soonest(0, 1), 54);
        x.day();
        due("53", x.soonest(0, 1), 53);
        days(x, 35);
        x.pick(0);
        x.pick(0);
        x.pick(0);
        lay(x, 0, 6, 7, 8, 9);
        due("till day 72", x.soonest(0, 1), 36);
        x = garden("o973");
        lay(x, 0, 3, 5, 7, 9, 1);
        due("on an even day", x.soonest(0, 1), 44);
        x = garden("d980");
        lay(x, 0, 0, 1, 2);
        due("57", x.soonest(0, 1), 57);
        lay(x, 0, 0, 1, 2, 3);
        due("73 are too many", x.soonest(0, 1), NONE);
        x = garden("d790 d690 d490");
        lay(x, 0, 0, 1, 2);
        due("58", x.soonest(0, 1), 58);
        due("by the third alone", asked(x, x.at(1, 0)), 2);
        due("60", soonestOf("d690", 0, 1, 2), 60);
        due("61", soonestOf("d790", 0, 1, 2), NONE);
        due("broad would be 61 and odd", soonestOf("o790 d690", 0, 1, 2), 60);
    }

    private static int soonestOf(String signs, int... words) {
        BeanVoices x = garden(signs);
        lay(x, 0, words);
        return x.soonest(0, 1);
    }

    private static void p26ways() {
        sayingRefused((x, r) -> x.ways(r));
        BeanVoices x = garden("s010 s010 s010 b015");
        days(x, 4);
        lay(x, 0, 0);
        ratio(x, "one", x.ways(0), 3, 1);
        due("in all", x.asked(), 0);
        lay(x, 0, 0, 0);
        ratio(x, "two", x.ways(0), 9, 1);
        lay(x, 0, 0, 0, 0);
        ratio(x, "three, by no one thrice", x.ways(0), 24, 1);
        lay(x, 0, 5, 0, 6);
        ratio(x, "by the bean twice", x.ways(0), 3, 1);
        due("the bean in all", x.asked(), 8);
        lay(x, 0, 0, 0, 0, 0, 0);
        ratio(x, "five of six", x.ways(0), 90, 1);
        due("all three in all", x.asked(), 7);
        lay(x, 0, 5, 6);
        ratio(x, "one way", x.ways(0), 1, 1);
        due("the bean in all", x.asked(), 8);
        lay(x, 0, 4);
        ratio(x, "none", x.ways(0), 0, 1);
        due("in all of none", x.asked(), 0);
        x.row(0, 0);
        ratio(x, "no words", x.ways(0), 1, 1);
        due("in all", x.asked(), 0);
        x.goat(1);
        lay(x, 0, 0);
        ratio(x, "one eaten", x.ways(0), 2, 1);
    }

    private static void p27none() {
        sayingRefused((x, r) -> x.none(r));
        BeanVoices x = garden("b015 s010 b010 s010");
        days(x, 4);
        lay(x, 0, 0, 0, 0, 0, 0);
        due("none", x.none(0), 1);
        due("first", x.asked(), 1);
        lay(x, 0, 0, 1);
        due("by the second bean alone", x.none(0), 11);
        due("first", x.asked(), 2);
        lay(x, 0, 5, 6);
        due("none", x.none(0), 14);
        due("first", x.asked(), 0);
        lay(x, 0, 9);
        finds(x, "no way", x.none(0), NOUGHT);
        due("refused tells nothing", x.asked(), 0);
        x.row(0, 0);
        due("no words", x.none(0), 15);
        due("first", x.asked(), NONE);
        x.goat(3);
        lay(x, 0, 0);
        due("the eaten one is in none", x.none(0), 9);
    }

    private static void p28often() {
        BeanVoices x = new BeanVoices();
        due("word", x.often(10), BAD);
        due("word", x.often(-1), BAD);
        due("no plants", x.often(0), STATE);
        x = garden("s010 s010 b010 o010 s911");
        due("none", x.often(0), 0);
        due("sayers", x.asked(), 0);
        days(x, 3);
        due("one each", x.often(0), 3);
        due("sayers", x.asked(), 3);
        x.day();
        due("two of stutters", x.often(0), 6);
        due("sayers", x.asked(), 4);
        x.pick(0);
        x.goat(2);
        due("less", x.often(0), 4);
        due("sayers", x.asked(), 3);
        due("behind another word", x.often(1), 0);
    }

    private interface Clue {
        int ask(BeanVoices x, int i, int r);
    }

    private static void cluesRefused(Clue c) {
        BeanVoices x = new BeanVoices();
        due("no plants", c.ask(x, 0, 0), BAD);
        x = garden("b010");
        due("i", c.ask(x, 1, 0), BAD);
        due("i", c.ask(x, -1, 0), BAD);
        due("r", c.ask(x, 0, 6), BAD);
        due("r", c.ask(x, 0, -1), BAD);
        finds(x, "missing", c.ask(x, 0, 0), NOTHING);
        lay(x, 0, 99);
        finds(x, "not by pairs", c.ask(x, 0, 0), SIZE);
        lay(x, 0, 9, 0);
        finds(x, "pod 9", c.ask(x, 0, 0), UNLIKE);
        lay(x, 0, 0, 0, -1, 0);
        finds(x, "pod -1", c.ask(x, 0, 0), UNLIKE);
        lay(x, 0, 0, 10);
        finds(x, "word 10", c.ask(x, 0, 0), UNLIKE);
        lay(x, 0, 0, -1);
        finds(x, "word -1", c.ask(x, 0, 0), UNLIKE);
    }

    private static void p29seeds() {
        cluesRefused((x, i, r) -> x.seeds(i, r));
        BeanVoices x = garden("b010 r010 d010 o010 c010 s010");
        lay(x, 0, 3, 2);
        int[] seeds = {9, 3, 9, 6, 2, 1};
        for (int i = 0; i < 6; i++) {
            due("seeds " + i, x.seeds(i, 0), 1 << seeds[i]);
        }
        lay(x, 0, 3, 2, 3, 2, 4, 3);
        due("alike", x.seeds(0, 0), 512);
        due("not a runner", x.seeds(1, 0), 0);
        x.row(0, 0);
        due("any", x.seeds(0, 0), 1023);
    }

    private static void p30kinds() {
        cluesRefused((x, i, r) -> x.kinds(i, r));
        BeanVoices x = garden("b010 c015");
        lay(x, 0, 0, 0);
        due("all but the scarlet", x.kinds(0, 0), 47);
        lay(x, 0, 0, 6);
        due("scarlet", x.kinds(1, 0), 16);
        lay(x, 0, 2, 4);
        due("broad", x.kinds(0, 0), 8);
        lay(x, 0, 2, 6);
        due("runner; of the other stutter", x.kinds(0, 0), 2);
        due("stutter", x.kinds(1, 0), 32);
        lay(x, 0, 2, 8);
        due("none", x.kinds(0, 0), 0);
        x.row(0, 0);
        due("any", x.kinds(0, 0), 63);
    }

    private static void p31guess() {
        cluesRefused((x, i, r) -> x.guess(i, 0, r));
        BeanVoices x = garden("b010");
        x.row(0, 0);
        due("k", x.guess(0, 9, 0), BAD);
        due("k", x.guess(0, -1, 0), BAD);
        due("any", x.guess(0, 8, 0), 1023);
        lay(x, 0, 0, 3);
        due("pod 1", x.guess(0, 1, 0), 1 << 4 | 1 << 6 | 1 << 5 | 1 << 3);
        lay(x, 0, 0, 3, 1, 9);
        due("none", x.guess(0, 1, 0), 0);
    }

    private static void p32listen() {
        cluesRefused((x, i, r) -> x.listen(i, r));
        BeanVoices x = garden("b010");
        x.row(0, 0);
        due("any", x.listen(0, 0), 0);
        due("part", x.asked(), 6);
        lay(x, 0, 0, 3);
        due("pod 1", x.listen(0, 0), 1);
        due("beans and dwarfs, runners and scarlets", x.asked(), 2);
        lay(x, 1, 0, 3, 1, 9);
        lay(x, 0, 0, 3, 1, 3);
        due("a stutter alone", x.listen(0, 0), 0);
        due("part", x.asked(), 1);
        due("none", x.listen(0, 1), NONE);
        due("none tells nothing", x.asked(), 1);
    }

    private static void p33duel() {
        BeanVoices x = new BeanVoices();
        due("n", x.duel(6), BAD);
        due("n", x.duel(-1), BAD);
        due("no plants", x.duel(0), STATE);
        x = garden("b012 o017 r010");
        due("none ripe", x.duel(5), 0);
        x.day();
        due("no turns", x.duel(0), 0);
        due("one", x.duel(1), 2);
        due("two", x.duel(2), 2);
        due("three", x.duel(3), 5);
        due("no more to pick", x.duel(5), 5);
        x.day();
        due("the greatest", x.duel(1), 7);
        due("then the least", x.duel(2), 7);
        due("changes nothing", x.count(3), 0);
        x = garden("r010 b011");
        x.day();
        due("rather what leaves little", x.duel(2), 1);
        due("all", x.duel(3), 4);
    }

    private static void p34odds() {
        BeanVoices x = new BeanVoices();
        due("v", x.odds(7, 0), BAD);
        due("v", x.odds(-1, 0), BAD);
        due("p", x.odds(0, 13), BAD);
        due("p", x.odds(0, -1), BAD);
        due("no plants", x.odds(0, 0), STATE);
        x = garden("b010 b010 b010 b010 b010 b010");
        ratio(x, "none or more of none", x.odds(0, 5), 1, 1);
        ratio(x, "one of none", x.odds(1, 0), 0, 1);
        x.day();
        ratio(x, "all", x.odds(6, 0), 1, 1);
        ratio(x, "all", x.odds(6, 1), 1771561, 2985984);
        ratio(x, "one or more", x.odds(1, 1), 2985983, 2985984);
        ratio(x, "all taken", x.odds(1, 12), 0, 1);
        ratio(x, "three or more", x.odds(3, 6), 21, 32);
        x.goat(0);
        x.pick(1);
        ratio(x, "four left", x.odds(4, 4), 16, 81);
        ratio(x, "five are not there", x.odds(5, 0), 0, 1);
    }

    private static void p35mid() {
        BeanVoices x = new BeanVoices();
        due("p", x.mid(13), BAD);
        due("p", x.mid(-1), BAD);
        due("no plants", x.mid(0), STATE);
        x = garden("b013 b015 o019 b015");
        ratio(x, "none ripe", x.mid(3), 0, 1);
        x.day();
        ratio(x, "none taken", x.mid(0), 5, 1);
        ratio(x, "all taken", x.mid(12), 0, 1);
        // 5 with 1 - 1/4, 3 with 1/4 times 1/2
        ratio(x, "half", x.mid(6), 33, 8);
        // 5 with 1 - 1/9, 3 with 1/9 times 2/3
        ratio(x, "a third", x.mid(4), 14, 3);
    }

    private static void p36lots() {
        BeanVoices x = new BeanVoices();
        due("n", x.lots(0, 1), BAD);
        due("n", x.lots(21, 1), BAD);
        due("seed", x.lots(1, 0), BAD);
        due("seed", x.lots(1, -1), BAD);
        due("seed", x.lots(1, MOST), BAD);
        due("no plants", x.lots(1, MOST - 1), STATE);
        x = garden("b013");
        // 48271 by 3 leaves over 1: a day; then a pod is ripe
        due("a day", x.lots(1, 1), 0);
        due("day", x.count(1), 1);
        due("a pick", x.lots(1, 1), 3);
        due("picked", x.count(3), 1);
        // 3 times 48271 by 3 leaves over 0: water; then a pod is ripe again
        due("water", x.lots(1, 3), 0);
        due("water", x.count(4), 1);
        // the lot behind 48271 is 182605794 = 3 * 60868598
        due("a pick, then water", x.lots(2, 1), 4);
        due("water", x.count(4), 2);
        due("day", x.count(1), 1);
        due("deeds", x.count(2), 5);
        x = garden("b010 b010 b010 b010 b010");
        // 48271 by 8, cut, is 6033, by 5 leaves over 3; 3 times it: 18101, over 1
        x.water(3);
        x.lots(1, 1);
        due("the fourth was picked", asked(x, x.plant(3, 5)), 1);
        x.lots(1, 3);
        due("the second has water", asked(x, x.plant(1, 4)), 1);
        x.goat(1);
        x.lots(1, 3);
        due("the eaten one has none", asked(x, x.plant(1, 4)), 1);
        due("a day passed", x.count(1), 1);
        x = garden("b013");
        days(x, 21);
        due("too many", x.lots(20, 5), FULL);
        x.undo(20);
        x.lots(20, 5);
        due("40 are not too many", x.count(2), 40);
        due("full behind bad", x.lots(21, 5), BAD);
    }

    private static void p37asked() {
        BeanVoices x = new BeanVoices();
        due("before", x.asked(), 0);
        x = garden("b017");
        x.plant(0, 3);
        due("plant", x.asked(), 7);
        x.text(0, 1);
        x.put(0, 0, 5);
        x.day();
        x.count(1);
        x.odds(1, 1);
        x.mid(1);
        x.when(0, 5);
        x.duel(1);
        x.digest();
        lay(x, 0, 7);
        x.plant(0, 2);
        x.soonest(0, 1);
        due("others tell nothing", x.asked(), 1);
        x.ripe();
        due("ripe", x.asked(), 128);
    }

    private static void p38and39ratio() {
        BeanVoices x = new BeanVoices();
        due("upper before", x.upper(), 0);
        due("lower before", x.lower(), 1);
        x.odds(0, 0);
        due("refused", x.upper(), 0);
        x = garden("b017");
        x.day();
        ratio(x, "odds", x.odds(1, 9), 1, 4);
        x.odds(1, 13);
        x.duel(3);
        due("upper stays", x.upper(), 1);
        due("lower stays", x.lower(), 4);
        ratio(x, "mid", x.mid(9), 7, 4);
        lay(x, 0, 7);
        ratio(x, "ways", x.ways(0), 1, 1);
    }

    private static void p40count() {
        BeanVoices x = garden("b017 r010 c010 s010 o010");
        days(x, 3);
        x.water(1);
        x.water(4);
        x.pick(0);
        x.pick(1);
        x.pick(1);
        x.goat(2);
        x.goat(0);
        x.row(0, 1);
        x.row(5, 0);
        x.text(0, 0);
        x.keep(2);
        int[] counts = {5, 3, 10, 3, 2, 26, 3, 2, 2, 2, 1};
        for (int what = 0; what <= 10; what++) {
            due("count " + what, x.count(what), counts[what]);
        }
        due("what", x.count(11), BAD);
        due("what", x.count(-1), BAD);
    }

    private static void p41and42findings() {
        BeanVoices x = new BeanVoices();
        due("before", x.finding(), 0);
        for (int f = 1; f <= 5; f++) {
            due("before", x.findings(f), 0);
        }
        x.at(0, 0);
        x.tear(0);
        x.row(0, 0);
        x.at(0, 0);
        x.mean(0);
        x.row(0, -1);
        x.row(0, -1);
        x.row(0, 41);
        x.row(0, 3);
        due("the latest", x.finding(), SIZE);
        int[] often = {2, 1, 0, 1, 2};
        for (int f = 1; f <= 5; f++) {
            due("findings " + f, x.findings(f), often[f - 1]);
        }
        due("f", x.findings(0), BAD);
        due("f", x.findings(6), BAD);
        due("f", x.findings(MOST), BAD);
        due("f", x.findings(LEAST), BAD);
    }

    private static long fold(long... values) {
        long h = 17;
        for (long v : values) {
            h = 31 * h + v;
        }
        return h;
    }

    private static void p43digest() {
        BeanVoices x = new BeanVoices();
        due("new", x.digest(), fold(0, 0, 0, 0, 0, 0, 10, 0, 0, 0, 0, -1, -1, -1, -1, -1, -1, -1, -1, -1, -1, -1, -1, -1));
        x = garden("r017");
        x.day();
        x.keep(1);
        x.pick(0);
        lay(x, 2, -5, 6);
        x.text(0, 0);
        x.text(3, 2);
        x.put(3, 1, 200);
        int told = x.asked();
        due("all", x.digest(), fold(1, 1, 2, 1, 0, 1, 7, 1, 1, 2, 1, 1, 0, 1, 7, 0, 1, 2, 0, -1, 1, -1,
                -1, -1, 2, -5, 6, -1, -1, -1, 0, -1, -1, 2, 32, -56));
        due("asked stays", x.asked(), told);
    }

    public static void main(String[] args) {
        Runnable[] promises = {Promises::p1, Promises::p2row, Promises::p3lay, Promises::p4at, Promises::p5tear,
            Promises::p6copy, Promises::p7mean, Promises::p8text, Promises::p9put, Promises::p10fault,
            Promises::p11garden, Promises::p12plant, Promises::p13mark, Promises::p14word, Promises::p15day,
            Promises::p16water, Promises::p17pick, Promises::p18goat, Promises::p19undo, Promises::p20and21keepOn,
            null, Promises::p22ripe, Promises::p23when, Promises::p24sooner, Promises::p25soonest, Promises::p26ways,
            Promises::p27none, Promises::p28often, Promises::p29seeds, Promises::p30kinds, Promises::p31guess,
            Promises::p32listen, Promises::p33duel, Promises::p34odds, Promises::p35mid, Promises::p36lots,
            Promises::p37asked, Promises::p38and39ratio, null, Promises::p40count, Promises::p41and42findings, null,
            Promises::p43digest};
        for (promise = 1; promise <= promises.length; promise++) {
            if (promises[promise - 1] != null) {
                promises[promise - 1].run();
            }
        }
        System.out.println("promises: " + (wrong == 0 ? "all answers are as due" : wrong + " answers are not as due"));
        if (wrong != 0) {
            System.exit(1);
        }
    }
}
