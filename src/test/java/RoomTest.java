import java.lang.management.ManagementFactory;

/** All calls of a run live in one room: what is asked may make nothing, and an object stays small. */
public final class RoomTest {
    private static final Due DUE = new Due();
    private static final com.sun.management.ThreadMXBean THREADS =
        (com.sun.management.ThreadMXBean) ManagementFactory.getThreadMXBean();

    public static void main(String[] args) {
        StampDuchy d = Due.ruled("take awake*hands-holds if not[hour%2=1 and purse>5];take 1", Due.TOWN);
        for (int i = 0; i < 5; i++) {
            Due.rule(d, "take person+" + i);
        }
        for (int k = 0; k < 4; k++) {
            d.image(k);
        }
        everyAct(d);
        everyQuestion(d);
        long before = made();
        long nothing = made() - before;
        before = made();
        for (int i = 0; i < 20; i++) {
            everyAct(d);
        }
        DUE.is("acts make nothing", (made() - before - nothing) / 20000, 0);
        before = made();
        for (int i = 0; i < 20; i++) {
            everyQuestion(d);
        }
        DUE.is("questions make nothing", (made() - before - nothing) / 20000, 0);
        before = made();
        StampDuchy other = new StampDuchy();
        long size = made() - before - nothing;
        DUE.is("a new object has at most some 10000 bytes, not " + size, size <= 10000 ? 1 : 0, 1);
        DUE.is("it is used", other.count(5), 0);
        DUE.finish();
    }

    private static long made() {
        return THREADS.getThreadAllocatedBytes(Thread.currentThread().getId());
    }

    private static void everyAct(StampDuchy d) {
        for (int i = 0; i < 25; i++) {
            d.hour();
        }
        d.begin(2, 2);
        d.sneak(3, 2);
        d.hand(3, 0);
        d.drop(3);
        d.undo();
        d.force(1);
        d.force(0);
        d.seed(3);
        d.log(-1, 0, 0);
        d.log(0, 0, 2);
        for (int k = 0; k < 4; k++) {
            d.image(k);
        }
        d.back(2);
        d.feed(1, 2, 3, 4, 5);
        d.duchy();
        d.rule();
        d.end(0);
    }

    private static void everyQuestion(StampDuchy d) {
        d.ahead(0, 100, 0);
        d.stops(0);
        d.save(1, 0);
        d.relay(0, 48, 47);
        d.most(48, 1);
        d.chains(2);
        d.tariff(0, 0);
        d.help(48, 0);
        d.value(0, 48);
        d.watch(23);
        d.ruled(0);
        d.look(60, 0);
        d.nights(10, 60, 50, 0);
        for (int i = 0; i < 16; i++) {
            d.count(i);
            d.kind(1, i);
            d.person(1, i);
            d.work(1, i);
        }
    }
}
