import java.math.BigInteger;
import java.util.ArrayList;
import java.util.Arrays;
import java.util.List;
import java.util.Random;

/**
 * Random runs of calls, each answer held against a second telling of the document that is written as
 * differently as could be: gardens as snapshots, all ways tried one by one, chances by all sets of pods.
 */
public final class RandomRuns {
    static final int BAD = -1, FULL = -2, FINDING = -3, STATE = -4, NONE = -9;

    /** A garden as it stands after some deeds. */
    static final class Stand {
        int day;
        int said = 10;
        int[] water;
        int[] picked;
        boolean[] eaten;

        Stand(int plants) {
            water = new int[plants];
            picked = new int[plants];
            eaten = new boolean[plants];
        }

        Stand(Stand s) {
            day = s.day;
            said = s.said;
            water = s.water.clone();
            picked = s.picked.clone();
            eaten = s.eaten.clone();
        }
    }

    static final class Second {
        final int[][] rows = new int[6][];
        final byte[][] texts = new byte[4][];
        String plants = "";
        List<Stand> stands = new ArrayList<>(List.of(new Stand(0)));
        @SuppressWarnings("unchecked")
        final List<Stand>[] kept = new List[3];
        int asked;
        long upper;
        long lower = 1;
        int finding;
        final int[] findings = new int[6];

        int find(int f) {
            finding = f;
            findings[f]++;
            return FINDING;
        }

        boolean is(int v, int from, int to) {
            return from <= v && v <= to;
        }

        int row(int r, int n) {
            if (!is(r, 0, 5) || n > 40) return BAD;
            if (n < 0) return find(5);
            rows[r] = new int[n];
            return n;
        }

        int lay(int r, int i, int v) {
            int a = at(r, i);
            if (a == 1) rows[r][i] = v;
            return a;
        }

        int at(int r, int i) {
            if (!is(r, 0, 5)) return BAD;
            if (rows[r] == null) return find(1);
            if (!is(i, 0, rows[r].length - 1)) return find(2);
            asked = rows[r][i];
            return 1;
        }

        int tear(int r) {
            if (!is(r, 0, 5)) return BAD;
            if (rows[r] == null) return find(1);
            rows[r] = null;
            return 1;
        }

        int copy(int r, int i, int to, int j, int n) {
            if (!is(r, 0, 5) || !is(to, 0, 5)) return BAD;
            if (n < 0) return find(5);
            if (rows[r] == null || rows[to] == null) return find(1);
            if (i < 0 || j < 0 || (long) i + n > rows[r].length || (long) j + n > rows[to].length) return find(2);
            int[] taken = Arrays.copyOfRange(rows[r], i, i + n);
            for (int x = 0; x < n; x++) rows[to][j + x] = taken[x];
            return 1;
        }

        int mean(int r) {
            if (!is(r, 0, 5)) return BAD;
            if (rows[r] == null) return find(1);
            if (rows[r].length == 0) return find(4);
            BigInteger sum = BigInteger.ZERO;
            for (int v : rows[r]) sum = sum.add(BigInteger.valueOf(v));
            asked = sum.divide(BigInteger.valueOf(rows[r].length)).intValueExact();
            return 1;
        }

        int text(int t, int n) {
            if (!is(t, 0, 3) || n > 60) return BAD;
            if (n < 0) return find(5);
            texts[t] = new byte[n];
            Arrays.fill(texts[t], (byte) ' ');
            return n;
        }

        int put(int t, int i, int v) {
            if (!is(t, 0, 3)) return BAD;
            if (texts[t] == null) return find(1);
            if (!is(i, 0, texts[t].length - 1)) return find(2);
            int was = texts[t][i];
            texts[t][i] = (byte) v;
            return was + 1000;
        }

        /** The longest beginning that some garden also has; a garden's beginnings are told by a pattern. */
        int faultOf(byte[] t) {
            StringBuilder b = new StringBuilder();
            for (byte v : t) b.append((char) (v & 255));
            String whole = "[brdocs][0-9][1-9][0-9]";
            if (b.toString().matches(" *(" + whole + " *){1,6}")) return NONE;
            for (int n = 1; n <= b.length(); n++) {
                String s = b.substring(0, n);
                boolean goesOn = s.matches(" *(" + whole + " *){0,6}")
                        || s.matches(" *(" + whole + " *){0,5}[brdocs]([0-9]([1-9])?)?");
                if (!goesOn) return n - 1;
            }
            return t.length;
        }

        int fault(int t) {
            if (!is(t, 0, 3)) return BAD;
            if (texts[t] == null) return find(1);
            return faultOf(texts[t]);
        }

        int garden(int t) {
            if (!is(t, 0, 3)) return BAD;
            if (texts[t] == null) return find(1);
            if (faultOf(texts[t]) != NONE) return STATE;
            plants = new String(texts[t], java.nio.charset.StandardCharsets.ISO_8859_1).replace(" ", "");
            stands = new ArrayList<>(List.of(new Stand(size())));
            Arrays.fill(kept, null);
            return size();
        }

        int size() {
            return plants.length() / 4;
        }

        boolean isPlant(int i) {
            return is(i, 0, size() - 1);
        }

        int kind(int i) {
            return "brdocs".indexOf(plants.charAt(4 * i));
        }

        int figure(int i, int n) {
            return plants.charAt(4 * i + n) - '0';
        }

        Stand now() {
            return stands.get(stands.size() - 1);
        }

        int deeds() {
            return stands.size() - 1;
        }

        boolean runner(int kind) {
            return kind == 1 || kind == 4;
        }

        boolean dwarf(int kind) {
            return kind == 2 || kind == 5;
        }

        int pods(int kind, int pace, int age) {
            int bean = Math.min(9, age / pace);
            if (runner(kind)) return Math.min(9, age / pace + (age > 0 ? 1 : 0));
            if (dwarf(kind)) return bean / 2;
            return bean;
        }

        int ageOf(int i, int day, int water) {
            return Math.max(0, day + water - figure(i, 1));
        }

        int ripeOf(int i, Stand s) {
            return pods(kind(i), figure(i, 2), ageOf(i, s.day, s.water[i]));
        }

        int wordOf(int kind, int seed, int k) {
            if (kind == 1) return (seed + 3 * k) % 10;
            if (kind == 4) return (wordOf(1, seed, k) + 1) % 10;
            if (kind == 3) return (seed + 2 * k) % 10;
            if (kind == 5) return wordOf(2, seed, k / 2);
            return (seed + k) % 10;
        }

        int nextWord(int i, Stand s) {
            return wordOf(kind(i), figure(i, 3), s.picked[i]);
        }

        boolean can(int i, Stand s) {
            return !s.eaten[i] && s.picked[i] < ripeOf(i, s) && (kind(i) != 3 || s.day % 2 == 0);
        }

        int value(int i, int what) {
            Stand s = now();
            return new int[] {kind(i), figure(i, 1), figure(i, 2), figure(i, 3), s.water[i], s.picked[i],
                ripeOf(i, s), s.eaten[i] ? 1 : 0}[what];
        }

        int plant(int i, int what) {
            if (!isPlant(i) || !is(what, 0, 7)) return BAD;
            asked = value(i, what);
            return 1;
        }

        int mark(int i, int kind) {
            if (!isPlant(i) || !is(kind, 1, 5)) return BAD;
            int own = kind(i);
            boolean fits = own == kind || kind == 1 && own == 4 || kind == 2 && own == 5;
            if (!fits) return find(3);
            Stand s = now();
            int age = ageOf(i, s.day, s.water[i]);
            int bean = pods(0, figure(i, 2), age);
            if (kind == 1) return pods(1, figure(i, 2), age) > bean ? 1 : 0;
            if (kind == 2) return bean - pods(2, figure(i, 2), age);
            if (kind == 3) return s.day % 2;
            if (kind == 4) return wordOf(4, figure(i, 3), 0) - wordOf(1, figure(i, 3), 0) + 10;
            if (s.picked[i] == 0) return 0;
            return nextWord(i, s) == wordOf(5, figure(i, 3), s.picked[i] - 1) ? 1 : 0;
        }

        int word(int i, int k) {
            return !isPlant(i) || !is(k, 0, 8) ? BAD : wordOf(kind(i), figure(i, 3), k);
        }

        Stand step() {
            Stand s = new Stand(now());
            stands.add(s);
            return s;
        }

        int day() {
            if (size() == 0) return STATE;
            if (deeds() == 40) return FULL;
            return ++step().day;
        }

        int water(int i) {
            if (!isPlant(i)) return BAD;
            if (now().water[i] == 9 || now().eaten[i]) return STATE;
            if (deeds() == 40) return FULL;
            return ++step().water[i];
        }

        int pick(int i) {
            if (!isPlant(i)) return BAD;
            if (!can(i, now())) return STATE;
            if (deeds() == 40) return FULL;
            Stand s = step();
            s.said = nextWord(i, s);
            s.picked[i]++;
            return s.said;
        }

        int goat(int i) {
            if (!isPlant(i)) return BAD;
            if (now().eaten[i]) return STATE;
            if (deeds() == 40) return FULL;
            step().eaten[i] = true;
            int left = 0;
            for (boolean e : now().eaten) left += e ? 0 : 1;
            return left;
        }

        int undo(int n) {
            if (!is(n, 0, deeds())) return BAD;
            int gone = deeds() - n;
            stands = new ArrayList<>(stands.subList(0, n + 1));
            return gone;
        }

        int keep(int k) {
            if (!is(k, 0, 2)) return BAD;
            if (size() == 0) return STATE;
            kept[k] = new ArrayList<>(stands);
            return deeds();
        }

        int on(int k) {
            if (!is(k, 0, 2)) return BAD;
            if (kept[k] == null) return find(1);
            stands = new ArrayList<>(kept[k]);
            return deeds();
        }

        int ripe() {
            if (size() == 0) return STATE;
            int bits = 0;
            int words = 0;
            for (int i = 0; i < size(); i++) {
                if (can(i, now())) {
                    bits += 1 << i;
                    words |= 1 << nextWord(i, now());
                }
            }
            asked = words;
            return bits;
        }

        /** Whether POD k could be picked, were all those ahead of it picked. */
        boolean readyOn(int i, int k, int day, int water) {
            Stand s = new Stand(now());
            s.day = day;
            s.water[i] = water;
            s.picked[i] = k;
            return can(i, s);
        }

        int when(int i, int k) {
            if (!isPlant(i) || !is(k, 0, 8)) return BAD;
            for (int d = 0; d <= 99; d++) {
                if (readyOn(i, k, now().day + d, now().water[i])) return d;
            }
            return NONE;
        }

        int sooner(int i, int k, int n) {
            if (!isPlant(i) || !is(k, 0, 8) || !is(n, 0, 40)) return BAD;
            for (int more = 0; now().water[i] + more <= 9; more++) {
                for (int d = 0; d <= n; d++) {
                    if (readyOn(i, k, now().day + d, now().water[i] + more)) return more;
                }
            }
            return NONE;
        }

        int refuseSaying(int r) {
            if (!is(r, 0, 5)) return BAD;
            if (size() == 0) return STATE;
            if (rows[r] == null) return find(1);
            if (rows[r].length > 5) return find(5);
            for (int w : rows[r]) if (!is(w, 0, 9)) return find(3);
            return 0;
        }

        /** In how many days a way makes a saying whole; NONE: it does not by then. */
        int wholeIn(int[] way, int[] words, int most) {
            Stand s = new Stand(now());
            int d = 0;
            for (int n = 0; n < words.length; n++) {
                if (nextWord(way[n], s) != words[n]) return NONE;
                while (!can(way[n], s)) {
                    if (++d > most) return NONE;
                    s.day++;
                }
                s.picked[way[n]]++;
            }
            return d;
        }

        List<int[]> allRows(int n) {
            List<int[]> all = new ArrayList<>();
            int many = 1;
            for (int i = 0; i < n; i++) many *= size();
            for (int c = 0; c < many; c++) {
                int[] way = new int[n];
                int rest = c;
                for (int i = n - 1; i >= 0; i--) {
                    way[i] = rest % size();
                    rest /= size();
                }
                all.add(way);
            }
            return all;
        }

        int soonest(int r, int to) {
            if (!is(to, 0, 5)) return BAD;
            int no = refuseSaying(r);
            if (no != 0) return no;
            int best = NONE;
            int[] bestWay = null;
            for (int[] way : allRows(rows[r].length)) {
                int d = wholeIn(way, rows[r], 60);
                if (d != NONE && (best == NONE || d < best)) {
                    best = d;
                    bestWay = way;
                }
            }
            if (bestWay != null) rows[to] = bestWay;
            return best;
        }

        List<int[]> waysOf(int[] words) {
            List<int[]> all = new ArrayList<>();
            for (int[] way : allRows(words.length)) {
                if (wholeIn(way, words, 0) == 0) all.add(way);
            }
            return all;
        }

        boolean has(int[] way, int plant) {
            return Arrays.stream(way).anyMatch(p -> p == plant);
        }

        int ways(int r) {
            int no = refuseSaying(r);
            if (no != 0) return no;
            List<int[]> all = waysOf(rows[r]);
            upper = all.size();
            lower = 1;
            int bits = 0;
            for (int i = 0; i < size(); i++) {
                int plant = i;
                if (!all.isEmpty() && all.stream().allMatch(w -> has(w, plant))) bits += 1 << i;
            }
            asked = bits;
            return 1;
        }

        int none(int r) {
            int no = refuseSaying(r);
            if (no != 0) return no;
            List<int[]> all = waysOf(rows[r]);
            if (all.isEmpty()) return find(4);
            int bits = 0;
            for (int i = 0; i < size(); i++) {
                int plant = i;
                if (all.stream().noneMatch(w -> has(w, plant))) bits += 1 << i;
            }
            asked = all.get(0).length == 0 ? NONE : all.get(0)[0];
            return bits;
        }

        int often(int word) {
            if (!is(word, 0, 9)) return BAD;
            if (size() == 0) return STATE;
            Stand s = new Stand(now());
            int times = 0;
            int sayers = 0;
            for (int i = 0; i < size(); i++) {
                if (can(i, s) && nextWord(i, s) == word) sayers++;
                for (; can(i, s) && nextWord(i, s) == word; s.picked[i]++) times++;
            }
            asked = sayers;
            return times;
        }

        int refuseClues(int i, int r) {
            if (!isPlant(i) || !is(r, 0, 5)) return BAD;
            if (rows[r] == null) return find(1);
            if (rows[r].length % 2 == 1) return find(5);
            for (int p = 0; p < rows[r].length; p++) if (!is(rows[r][p], 0, p % 2 == 0 ? 8 : 9)) return find(3);
            return 0;
        }

        boolean fits(int kind, int seed, int r) {
            for (int p = 0; p < rows[r].length; p += 2) {
                if (wordOf(kind, seed, rows[r][p]) != rows[r][p + 1]) return false;
            }
            return true;
        }

        int seeds(int i, int r) {
            int no = refuseClues(i, r);
            if (no != 0) return no;
            int bits = 0;
            for (int s = 0; s < 10; s++) if (fits(kind(i), s, r)) bits += 1 << s;
            return bits;
        }

        int kinds(int i, int r) {
            int no = refuseClues(i, r);
            if (no != 0) return no;
            int bits = 0;
            for (int k = 0; k < 6; k++) if (fits(k, figure(i, 3), r)) bits += 1 << k;
            return bits;
        }

        int guess(int i, int k, int r) {
            if (!is(k, 0, 8)) return BAD;
            int no = refuseClues(i, r);
            if (no != 0) return no;
            int bits = 0;
            for (int c = 0; c < 60; c++) if (fits(c / 10, c % 10, r)) bits |= 1 << wordOf(c / 10, c % 10, k);
            return bits;
        }

        int listen(int i, int r) {
            int no = refuseClues(i, r);
            if (no != 0) return no;
            int best = NONE;
            int least = Integer.MAX_VALUE;
            for (int k = 0; k < 9; k++) {
                int[] said = new int[10];
                for (int c = 0; c < 60; c++) if (fits(c / 10, c % 10, r)) said[wordOf(c / 10, c % 10, k)]++;
                int greatest = Arrays.stream(said).max().getAsInt();
                if (greatest > 0 && greatest < least) {
                    least = greatest;
                    best = k;
                }
            }
            if (best != NONE) asked = least;
            return best;
        }

        int duelFrom(Stand s, int turn, int turns) {
            List<Integer> sums = new ArrayList<>();
            for (int i = 0; i < size() && turn < turns; i++) {
                if (can(i, s)) {
                    Stand then = new Stand(s);
                    then.picked[i]++;
                    sums.add(nextWord(i, s) + duelFrom(then, turn + 1, turns));
                }
            }
            sums.sort(null);
            if (sums.isEmpty()) return 0;
            return turn % 2 == 0 ? sums.get(sums.size() - 1) : sums.get(0);
        }

        int duel(int n) {
            if (!is(n, 0, 5)) return BAD;
            if (size() == 0) return STATE;
            return duelFrom(now(), 0, n);
        }

        void tell(BigInteger up, BigInteger low) {
            BigInteger g = up.gcd(low);
            upper = up.divide(g).longValueExact();
            lower = low.divide(g).longValueExact();
        }

        /** The words of the next pods, and of each set of those left its greatest word and size, by weight. */
        void slugs(int p, int v) {
            List<Integer> words = new ArrayList<>();
            for (int i = 0; i < size(); i++) if (can(i, now())) words.add(nextWord(i, now()));
            BigInteger sum = BigInteger.ZERO;
            for (int set = 0; set < 1 << words.size(); set++) {
                BigInteger weight = BigInteger.ONE;
                int greatest = 0;
                for (int n = 0; n < words.size(); n++) {
                    boolean left = (set >> n & 1) == 1;
                    weight = weight.multiply(BigInteger.valueOf(left ? 12 - p : p));
                    if (left) greatest = Math.max(greatest, words.get(n));
                }
                int times = v >= 0 ? (Integer.bitCount(set) >= v ? 1 : 0) : greatest;
                sum = sum.add(weight.multiply(BigInteger.valueOf(times)));
            }
            tell(sum, BigInteger.valueOf(12).pow(words.size()));
        }

        int odds(int v, int p) {
            if (!is(v, 0, 6) || !is(p, 0, 12)) return BAD;
            if (size() == 0) return STATE;
            slugs(p, v);
            return 1;
        }

        int mid(int p) {
            if (!is(p, 0, 12)) return BAD;
            if (size() == 0) return STATE;
            slugs(p, -1);
            return 1;
        }

        int lots(int n, int seed) {
            if (!is(n, 1, 20) || !is(seed, 1, 2147483646)) return BAD;
            if (size() == 0) return STATE;
            if (deeds() + n > 40) return FULL;
            BigInteger m = BigInteger.valueOf(2147483647);
            BigInteger x = BigInteger.valueOf(seed);
            int sum = 0;
            for (int t = 0; t < n; t++) {
                x = x.multiply(BigInteger.valueOf(48271)).mod(m);
                int i = x.intValueExact() / 8 % size();
                if (can(i, now())) sum += pick(i);
                else if (x.intValueExact() % 3 != 0 || water(i) < 0) day();
            }
            return sum;
        }

        int asked() {
            return asked;
        }

        long upper() {
            return upper;
        }

        long lower() {
            return lower;
        }

        int count(int what) {
            Stand s = now();
            int left = 0;
            int runners = 0;
            for (int i = 0; i < size(); i++) {
                left += s.eaten[i] ? 0 : 1 << i;
                runners += runner(kind(i)) ? 1 : 0;
            }
            int[] all = {size(), s.day, deeds(), Arrays.stream(s.picked).sum(), Arrays.stream(s.water).sum(), left,
                s.said, runners, there(rows), there(texts), there(kept)};
            return is(what, 0, 10) ? all[what] : BAD;
        }

        int there(Object[] things) {
            int n = 0;
            for (Object o : things) n += o == null ? 0 : 1;
            return n;
        }

        int finding() {
            return finding;
        }

        int findings(int f) {
            return is(f, 1, 5) ? findings[f] : BAD;
        }

        long digest() {
            List<Long> all = new ArrayList<>();
            for (int w = 0; w <= 10; w++) all.add((long) count(w));
            for (int i = 0; i < size(); i++) for (int w = 0; w <= 7; w++) all.add((long) value(i, w));
            for (List<Stand> k : kept) all.add(k == null ? -1L : k.size() - 1);
            for (int[] row : rows) {
                all.add(row == null ? -1L : row.length);
                if (row != null) for (int v : row) all.add((long) v);
            }
            for (byte[] t : texts) {
                all.add(t == null ? -1L : t.length);
                if (t != null) for (byte v : t) all.add((long) v);
            }
            long h = 17;
            for (long v : all) h = 31 * h + v;
            return h;
        }
    }

    static int wrong = 0;
    static final java.util.Map<String, Integer> seen = new java.util.TreeMap<>();

    final Random random;
    final BeanVoices x = new BeanVoices();
    final Second y = new Second();
    final StringBuilder told = new StringBuilder();

    RandomRuns(long seed) {
        random = new Random(seed);
    }

    /** Mostly a number in the bounds, at times one a little or far beyond. */
    int some(int from, int to) {
        int dice = random.nextInt(60);
        if (dice == 0) return from - 1;
        if (dice == 1) return to + 1;
        if (dice == 2) return new int[] {Integer.MIN_VALUE, Integer.MAX_VALUE, -1, 100, -1000}[random.nextInt(5)];
        return from + random.nextInt(to - from + 1);
    }

    void call(String name, int... a) {
        try {
            Class<?>[] types = new Class<?>[a.length];
            Object[] values = new Object[a.length];
            for (int i = 0; i < a.length; i++) {
                types[i] = int.class;
                values[i] = a[i];
            }
            long got = ((Number) BeanVoices.class.getMethod(name, types).invoke(x, values)).longValue();
            long want = ((Number) Second.class.getDeclaredMethod(name, types).invoke(y, values)).longValue();
            told.append(name).append(Arrays.toString(a)).append(" -> ").append(got).append('\n');
            seen.merge(name + (want < 0 && !name.equals("digest") && !name.equals("asked") ? " " + want : ""), 1, Integer::sum);
            if (got != want) {
                wrong++;
                if (wrong <= 3) System.out.println(told + "    due is " + want);
            }
        } catch (ReflectiveOperationException e) {
            wrong++;
            if (wrong <= 3) System.out.println(told + name + Arrays.toString(a) + " threw " + e.getCause());
        }
    }

    void write(int t, String signs) {
        call("text", t, signs.length());
        for (int i = 0; i < signs.length(); i++) {
            if (signs.charAt(i) != ' ') call("put", t, i, signs.charAt(i));
        }
    }

    void newGarden() {
        StringBuilder s = new StringBuilder();
        int many = random.nextInt(12) == 0 ? 7 : 1 + random.nextInt(6);
        String letters = new String[] {"brdocs", "brdocs", "s", "cr", "os"}[random.nextInt(5)];
        int alike = random.nextInt(3) == 0 ? random.nextInt(10) : -1;
        boolean early = random.nextInt(3) > 0;
        for (int i = 0; i < many; i++) {
            for (int b = random.nextInt(4) - 1; b > 0; b--) s.append(' ');
            s.append(letters.charAt(random.nextInt(letters.length())));
            s.append(random.nextInt(early ? 3 : 10)).append(1 + random.nextInt(early ? 2 : 9));
            s.append(alike < 0 ? random.nextInt(10) : alike);
        }
        if (random.nextInt(6) == 0) s.setCharAt(random.nextInt(s.length()), " zb0197".charAt(random.nextInt(7)));
        if (random.nextInt(12) == 0) s.setLength(random.nextInt(s.length() + 1));
        int t = random.nextInt(4);
        write(t, s.toString());
        call("fault", t);
        call("garden", t);
    }

    void newSaying(int r) {
        int n = random.nextInt(30) == 0 ? 6 : random.nextInt(6);
        call("row", r, n);
        int[] picked = new int[y.size()];
        boolean same = random.nextBoolean();
        int first = random.nextInt(10);
        for (int i = 0; i < n; i++) {
            int word = some(0, 9);
            if (same) word = first;
            if (y.size() > 0 && random.nextInt(12) > 0) {
                int p = random.nextInt(y.size());
                word = y.wordOf(y.kind(p), y.figure(p, 3), y.now().picked[p] + picked[p]++);
                if (i == 0) first = word;
                if (same) word = first;
            }
            call("lay", r, i, word);
        }
    }

    void newPairs(int r) {
        int n = random.nextInt(20) == 0 ? 1 + 2 * random.nextInt(3) : 2 * random.nextInt(4);
        if (random.nextInt(20) == 0) n = 40;
        call("row", r, n);
        int kind = random.nextInt(6);
        int seed = y.size() > 0 && random.nextBoolean() ? y.figure(random.nextInt(y.size()), 3) : random.nextInt(10);
        for (int i = 0; i + 1 < n; i += 2) {
            int pod = some(0, 8);
            call("lay", r, i, pod);
            call("lay", r, i + 1, random.nextInt(10) == 0 ? some(0, 9) : y.wordOf(kind, seed, Math.floorMod(pod, 9)));
        }
    }

    void oneThing() {
        int i = some(0, Math.max(0, y.size() - 1));
        int r = some(0, 5);
        switch (random.nextInt(40)) {
            case 0: call("row", r, some(0, random.nextBoolean() ? 6 : 40)); break;
            case 1: case 2: call("lay", r, some(0, 5), random.nextBoolean() ? random.nextInt() : some(0, 9)); break;
            case 3: call("at", r, some(0, 5)); break;
            case 4: call("tear", r); break;
            case 5: call("copy", r, some(0, 4), some(0, 5), some(0, 4), some(0, 4)); break;
            case 6: call("mean", r); break;
            case 7: call("text", some(0, 3), some(0, 60)); break;
            case 8: call("put", some(0, 3), some(0, 5), random.nextBoolean() ? random.nextInt() : " b01".charAt(random.nextInt(4))); break;
            case 9: call("fault", some(0, 3)); call("garden", random.nextInt(12) == 0 ? some(0, 3) : 9); break;
            case 10: call("plant", i, some(0, 7)); break;
            case 11: call("mark", i, random.nextBoolean() || y.size() == 0 || !y.isPlant(i) ? some(1, 5) : y.kind(i)); break;
            case 12: call("word", i, some(0, 8)); break;
            case 13: case 14: case 15: call("day"); break;
            case 16: case 17: call("water", i); break;
            case 18: case 19: case 20: case 21: call("pick", i); break;
            case 22: if (random.nextInt(3) == 0) call("goat", i); break;
            case 23: call("undo", some(0, Math.max(0, y.deeds()))); break;
            case 24: call("keep", some(0, 2)); break;
            case 25: call("on", some(0, 2)); break;
            case 26: call("ripe"); break;
            case 27: call("when", i, some(0, 8)); break;
            case 28: call("sooner", i, some(0, 8), some(0, 40)); break;
            case 29: newSaying(Math.floorMod(r, 6)); call("soonest", r, some(0, 5)); break;
            case 30: newSaying(Math.floorMod(r, 6)); call("ways", r); call("asked"); call("none", r); break;
            case 31: call("often", some(0, 9)); break;
            case 32: case 33:
                newPairs(Math.floorMod(r, 6));
                call("seeds", i, r);
                call("kinds", i, r);
                call("guess", i, some(0, 8), r);
                call("listen", i, r);
                break;
            case 34: call("duel", some(0, 5)); break;
            case 35: call("odds", some(0, 6), some(0, 12)); break;
            case 36: call("mid", some(0, 12)); break;
            case 37: call("lots", random.nextBoolean() ? some(1, 20) : some(1, 4), some(1, 2147483646)); break;
            case 38: call("count", some(0, 10)); break;
            default: call("findings", some(1, 5)); break;
        }
    }

    void run() {
        for (int n = 0; n < 160; n++) {
            if (n == 5 || random.nextInt(90) == 0) newGarden();
            oneThing();
            call("asked");
            call("upper");
            call("lower");
            call("finding");
            call("digest");
        }
    }

    public static void main(String[] args) {
        int runs = args.length > 0 ? Integer.parseInt(args[0]) : 1500;
        for (int seed = 0; seed < runs && wrong == 0; seed++) {
            new RandomRuns(seed).run();
        }
        if (args.length > 1) System.out.println(seen);
        System.out.println("random runs: " + (wrong == 0 ? "all answers are as due" : wrong + " answers are not as due"));
        if (wrong != 0) System.exit(1);
    }
}
