import java.lang.management.ManagementFactory;
import java.lang.reflect.InvocationTargetException;
import java.lang.reflect.Method;
import java.lang.reflect.Modifier;
import java.util.ArrayList;
import java.util.Comparator;
import java.util.List;
import java.util.Random;

/** Any arguments in any state: no call throws, the same calls answer the same, and none makes an object. */
public final class AnyCallsTest {
    private static final int[] EDGES = {Integer.MIN_VALUE, Integer.MAX_VALUE, -1, -2, 0, 1, 2, 3, 4, 5, 6, 7, 8, 9,
        19, 20, 50, 51, 80, 100, 101, 999, 1000, 1440, 14400, 99999, 100000, 999999, 1000000};

    public static void main(String[] args) throws IllegalAccessException {
        for (int run = 0; run < 400; run++) {
            long first = wildRun(run);
            Check.due("the same calls, the same answers, run " + run, wildRun(run), first);
        }
        for (int i = 0; i < 3; i++) {
            busyRun(new BidsJudged());
        }
        Check.due("bytes that 500 calls make", bytesOfBusyRun() < 2000);
        Check.end("AnyCallsTest");
    }

    private static List<Method> calls() {
        List<Method> calls = new ArrayList<>();
        for (Method method : BidsJudged.class.getDeclaredMethods()) {
            if (Modifier.isPublic(method.getModifiers())) {
                calls.add(method);
            }
        }
        calls.sort(Comparator.comparing(Method::getName));
        return calls;
    }

    private static long wildRun(int seed) throws IllegalAccessException {
        Random random = new Random(seed);
        BidsJudged x = new BidsJudged();
        List<Method> calls = calls();
        long digest = 0;
        for (int i = 0; i < 600; i++) {
            Method call = calls.get(random.nextInt(calls.size()));
            Object[] with = new Object[call.getParameterCount()];
            int small = random.nextInt(4);
            for (int p = 0; p < with.length; p++) {
                with[p] = anything(call.getParameterTypes()[p], random, small > 0);
            }
            try {
                digest = digest * 31 + ((Number) call.invoke(x, with)).longValue();
            } catch (InvocationTargetException e) {
                Check.due(call.getName() + " threw " + e.getCause() + " in run " + seed, false);
                return digest;
            }
        }
        return digest;
    }

    private static Object anything(Class<?> type, Random random, boolean small) {
        if (type == boolean.class) {
            return random.nextBoolean();
        }
        if (type == long.class) {
            return random.nextBoolean() ? random.nextLong() : 'p' | '/' << 8 | 'l' << 16 | '+' << 24;
        }
        if (random.nextInt(20) == 0) {
            return random.nextInt();
        }
        return small ? random.nextInt(4) : EDGES[random.nextInt(EDGES.length)];
    }

    private static long bytesOfBusyRun() {
        com.sun.management.ThreadMXBean threads =
            (com.sun.management.ThreadMXBean) ManagementFactory.getThreadMXBean();
        BidsJudged x = new BidsJudged();
        long id = Thread.currentThread().getId();
        long before = threads.getThreadAllocatedBytes(id);
        busyRun(x);
        return threads.getThreadAllocatedBytes(id) - before;
    }

    /** The dearest calls on a full object. */
    private static void busyRun(BidsJudged x) {
        x.lots(6);
        for (int at = 0; at < 48; at++) {
            x.bid(at / 6, at % 6, at % 4, 100 + at, 90, 80 - at, 70, 340, at);
        }
        x.set(2, 100);
        x.ask(0, 0, 9);
        x.closing(0);
        x.time(1);
        for (int at = 0; at < 48; at++) {
            x.note(at % 5, at / 6, at % 6, at);
        }
        for (int i = 0; i < 10; i++) {
            x.feed(8, 'p' | '+' << 8 | '7' << 16 | '*' << 24);
            x.formula();
            x.feed(7, '6' | '*' << 8 | 'l' << 16 | '/' << 24 | (long) 'p' << 32 | (long) '+' << 40 | (long) 'q' << 48);
            x.formula();
            x.whole(i % 2);
            x.winner(i % 6);
            x.order(i % 6, 3);
            x.points(i % 8, 0, 0);
            x.gain(i % 8, 1, 5, 0);
            x.turned(2, i % 8, 3);
            x.quality(i % 8, 1, 0);
            x.low(i % 8, 2);
            x.ring(i % 6, 7);
            x.chance(i % 6, 7, 2);
            x.likeness(i % 6, 7, 2);
            x.award(0);
            x.challenge(0, i % 3);
            x.judge(i, true);
            x.join(i, 500);
            x.call(5);
            x.decline();
            x.count(3);
        }
    }
}
