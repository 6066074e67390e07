import java.lang.reflect.InvocationTargetException;
import java.lang.reflect.Method;
import java.util.Arrays;
import java.util.Comparator;
import java.util.List;
import java.util.function.Supplier;

/** What the tests of boundary cases have in common: each is a method that is marked with a sentence of the document. */
abstract class Boundaries extends Samples {
    private static final long FAR = 1L << 32;

    interface Call {
        long on(HeavyRoutes x);
    }

    interface IntCall {
        long on(HeavyRoutes x, int value);
    }

    interface LongCall {
        long on(HeavyRoutes x, long value);
    }

    static void runAll(Class<?> tests) {
        Method[] methods = Arrays.stream(tests.getDeclaredMethods())
            .filter(m -> m.isAnnotationPresent(Sentence.class))
            .sorted(Comparator.comparingInt((Method m) -> m.getAnnotation(Sentence.class).promise())
                .thenComparing(Method::getName))
            .toArray(Method[]::new);
        for (Method test : methods) {
            runOne(test);
        }
        System.out.println(tests.getName() + ": " + methods.length + " sentences");
        CHECK.end(tests.getName());
    }

    private static void runOne(Method test) {
        Sentence sentence = test.getAnnotation(Sentence.class);
        CHECK.about("promise " + sentence.promise() + " '" + sentence.words() + "': ");
        int before = CHECK.asked();
        try {
            test.invoke(null);
        } catch (InvocationTargetException thrown) {
            due(test.getName() + " threw " + thrown.getCause(), false, true);
        } catch (IllegalAccessException hidden) {
            due(test.getName() + " can't be called", false, true);
        }
        due(test.getName() + " asked for something", CHECK.asked() > before, true);
    }

    static long bit(boolean answer) {
        return answer ? 1 : 0;
    }

    /** The call is refused by the answer, and the object holds what it would hold without the call. */
    static void dueRefused(String what, Supplier<HeavyRoutes> sample, Call call, long answer) {
        HeavyRoutes asked = sample.get();
        due(what, call.on(asked), answer);
        dueAlike(what + " refused", asked, sample.get());
    }

    static void dueAlike(String what, HeavyRoutes one, HeavyRoutes other) {
        List<String> got = Probe.of(one);
        List<String> want = Probe.of(other);
        for (int i = 0; i < want.size(); i++) {
            if (!got.get(i).equals(want.get(i))) {
                due(what + ", then " + got.get(i) + " instead of " + want.get(i), false, true);
                return;
            }
        }
        due(what, true, true);
    }

    /** The ends of the range are taken, whose answers are told; what is beyond them is refused, near by and far off. */
    static void dueInts(String what, Supplier<HeavyRoutes> sample, int least, int greatest, IntCall call,
            long atLeast, long atGreatest, long refused) {
        due(what + " " + least, call.on(sample.get(), least), atLeast);
        due(what + " " + greatest, call.on(sample.get(), greatest), atGreatest);
        for (int value : new int[] {least - 1, greatest + 1, MIN, MAX}) {
            dueRefused(what + " " + value, sample, x -> call.on(x, value), refused);
        }
    }

    /** As dueInts(); the values far off are also those that would be in the range, were they cut to an int. */
    static void dueLongs(String what, Supplier<HeavyRoutes> sample, long least, long greatest, LongCall call,
            long atLeast, long atGreatest, long refused) {
        due(what + " " + least, call.on(sample.get(), least), atLeast);
        due(what + " " + greatest, call.on(sample.get(), greatest), atGreatest);
        long[] beyond = {least - 1, greatest + 1, Long.MIN_VALUE, Long.MAX_VALUE, least + FAR, greatest - FAR};
        for (long value : beyond) {
            dueRefused(what + " " + value, sample, x -> call.on(x, value), refused);
        }
    }

    /**
     * Some of everything: three ways from 0 to 3 (by roads 0 1, by 2 3, by 5), of which two are found; roads 4, 6, 7
     * and 8 that are closed, too low, too narrow and with a bridge too weak; hours round midnight, a turn that does not
     * pass, a slow bridge.
     */
    static HeavyRoutes rich() {
        HeavyRoutes x = withFiveWays();
        x.road(0, 3, 5, 299, 400);
        x.road(0, 3, 5, 400, 299);
        lay(x, 0, 3, 5);
        x.bridge(1);
        x.bridge(5);
        x.bridge(8);
        x.axle(0, 2);
        x.axle(5, 1);
        x.row(0, 10, 1, 4);
        x.row(0, 20, 1, 8);
        x.row(2, 30, 1000, 1);
        x.size(300, 300, 20);
        x.turn(2, 4, false);
        x.hours(3, 1400, 100);
        x.slow(1, true);
        x.change(4, false);
        x.run(3, 1, 90);
        x.run(0, 3, 60);
        x.alternate(1, 1);
        return x;
    }

    /** As much of everything as there can be: nodes, roads, bridges, corners, axles, hours, ways found, records. */
    static HeavyRoutes full() {
        HeavyRoutes x = withLongWays();
        for (int road = 0; road < 12; road++) {
            x.bridge(road);
            for (int i = 0; i < 3; i++) {
                x.hours(road, 100 + 2 * i, 101 + 2 * i);
            }
        }
        for (int i = 0; i < 6; i++) {
            for (int bridge = 0; bridge < 6; bridge++) {
                x.row(bridge, 10 * i, 1, 900 + i);
            }
            x.axle(i, 10 + i);
        }
        for (int i = 0; i < 51; i++) {
            x.run(0, 6, 0);
        }
        for (int i = 0; i < 4; i++) {
            x.alternate(1, 1);
        }
        return x;
    }
}
