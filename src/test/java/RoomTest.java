import com.sun.management.ThreadMXBean;
import java.lang.management.ManagementFactory;

/**
 * All calls of a run live in one room, so calls make nothing: what an object needs is made with it.
 * The dearest calls are made in the gardens that are dearest to search.
 */
public final class RoomTest {
    private static void write(BeanVoices x, String signs) {
        x.text(0, signs.length());
        for (int i = 0; i < signs.length(); i++) {
            x.put(0, i, signs.charAt(i));
        }
        x.garden(0);
    }

    private static long allCalls(BeanVoices x, String signs, int days) {
        write(x, signs);
        for (int d = 0; d < days; d++) {
            x.day();
        }
        x.row(0, 5);
        x.row(1, 40);
        long sum = x.soonest(0, 2) + x.ways(0) + x.none(0) + x.often(0) + x.duel(5) + x.odds(3, 5) + x.mid(5);
        sum += x.seeds(0, 1) + x.kinds(0, 1) + x.guess(0, 8, 1) + x.listen(0, 1) + x.ripe();
        sum += x.when(0, 8) + x.sooner(0, 8, 40) + x.keep(0) + x.lots(20, 7) + x.undo(3) + x.on(0) + x.goat(0);
        sum += x.water(1) + x.pick(1) + x.copy(1, 0, 1, 1, 39) + x.mean(1) + x.tear(2) + x.mark(1, 5) + x.plant(0, 6);
        return sum + x.count(5) + x.digest() + x.finding() + x.findings(3) + x.upper() + x.lower() + x.asked();
    }

    public static void main(String[] args) {
        ThreadMXBean bean = (ThreadMXBean) ManagementFactory.getThreadMXBean();
        long id = Thread.currentThread().getId();
        long sum = 0;
        BeanVoices x = new BeanVoices();
        for (int warm = 0; warm < 3; warm++) {
            sum += allCalls(x, "s010s010s010s010s010s010", 12) + bean.getThreadAllocatedBytes(id);
        }
        long before = bean.getThreadAllocatedBytes(id);
        for (int n = 0; n < 200; n++) {
            sum += allCalls(x, "s010s010s010s010s010s010", 12);
            sum += allCalls(x, "b010b010r010b010c010o010", 12);
            sum += allCalls(x, "s290d390s390s490o590s590", 0);
        }
        long made = bean.getThreadAllocatedBytes(id) - before;
        long start = bean.getThreadAllocatedBytes(id);
        for (int n = 0; n < 100; n++) {
            sum += new BeanVoices().digest();
        }
        long each = (bean.getThreadAllocatedBytes(id) - start) / 100;
        // a measuring call makes a little itself
        boolean fine = made < 4096 && each < 16384;
        System.out.println("room: calls made " + made + " bytes, an object has " + each + (sum == 1 ? "." : ""));
        if (!fine) {
            System.exit(1);
        }
    }
}
