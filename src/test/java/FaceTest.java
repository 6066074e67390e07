import java.lang.management.ManagementFactory;
import java.lang.reflect.Constructor;
import java.lang.reflect.Field;
import java.lang.reflect.Member;
import java.lang.reflect.Method;
import java.lang.reflect.Modifier;
import java.util.Arrays;
import java.util.Set;
import java.util.TreeSet;

/** The public face is the document's and no more, and calls make no objects once the constructor is done. */
public final class FaceTest {
    private static final String[] FACE = {
        "int BAD", "int NONE", "HeavyRoutes()", "int node()", "int road(int, int, int, int, int)", "int bridge(int)",
        "boolean row(int, long, long, long)", "boolean axle(long, long)", "boolean size(int, int, int)",
        "boolean turn(int, int, boolean)", "boolean hours(int, int, int)", "long rating(int, int)",
        "boolean kept(int)", "int run(int, int, int)", "int road2(int)", "int begun(int)", "int bars(int, int)",
        "int alternate(long, long)", "int slow(int, boolean)", "int convoy(int, int)", "int escort(int)",
        "int notice(int)", "int record(int)", "int change(int, boolean)", "int count(int)"};
    private static final Check CHECK = new Check();

    public static void main(String[] args) {
        face();
        nothingIsMade();
        CHECK.end("FaceTest");
    }

    private static void face() {
        Set<String> want = new TreeSet<>(Arrays.asList(FACE));
        Set<String> got = new TreeSet<>();
        for (Field f : HeavyRoutes.class.getDeclaredFields()) {
            take(got, f, f.getType() + " " + f.getName());
        }
        for (Constructor<?> c : HeavyRoutes.class.getDeclaredConstructors()) {
            take(got, c, "HeavyRoutes" + parameters(c.getParameterTypes()));
        }
        for (Method m : HeavyRoutes.class.getDeclaredMethods()) {
            take(got, m, m.getReturnType() + " " + m.getName() + parameters(m.getParameterTypes()));
        }
        CHECK.due("the face " + got, got.equals(want), true);
        int modifiers = HeavyRoutes.class.getModifiers();
        CHECK.due("the class is public and final", Modifier.isPublic(modifiers) && Modifier.isFinal(modifiers), true);
        CHECK.due("BAD", HeavyRoutes.BAD, -1);
        CHECK.due("NONE", HeavyRoutes.NONE, -2);
    }

    private static void take(Set<String> got, Member member, String text) {
        if (!Modifier.isPrivate(member.getModifiers())) {
            CHECK.due(text + " is public", Modifier.isPublic(member.getModifiers()), true);
            got.add(text);
        }
    }

    private static String parameters(Class<?>[] types) {
        StringBuilder text = new StringBuilder("(");
        for (Class<?> type : types) {
            text.append(text.length() > 1 ? ", " : "").append(type);
        }
        return text.append(")").toString();
    }

    /** One room holds all that a run makes, so the dearest calls must make nothing. */
    private static void nothingIsMade() {
        if (!(ManagementFactory.getThreadMXBean() instanceof com.sun.management.ThreadMXBean threads)) {
            return;
        }
        long self = Thread.currentThread().getId();
        // The machine itself makes something now and then, so the least of several rounds counts.
        long least = Long.MAX_VALUE;
        for (int round = 0; round < 5; round++) {
            HeavyRoutes x = new HeavyRoutes();
            long before = threads.getThreadAllocatedBytes(self);
            dearCalls(x);
            least = Math.min(least, threads.getThreadAllocatedBytes(self) - before);
        }
        CHECK.due("bytes that calls make", least, 0);
    }

    private static void dearCalls(HeavyRoutes x) {
        for (int i = 0; i < 7; i++) {
            x.node();
        }
        for (int i = 0; i < 12; i++) {
            x.road(i / 2, i / 2 + 1, 1 + i, 500, 500);
            x.bridge(i);
            x.hours(i, 10 * i, 9 * i);
            x.row(i / 2, 10 * (i % 2), 1, 1000 - i);
        }
        for (int i = 0; i < 5; i++) {
            x.axle(i, 9);
        }
        for (int i = 0; i < 40; i++) {
            x.run(0, 6, i);
            x.alternate(1, 1);
            x.convoy(20, 600);
            x.kept(i % 6);
            x.rating(i % 6, i % 2);
            x.bars(i % 2, 0);
            x.escort(0);
            x.notice(0);
            x.count(i % 8);
            x.record(i);
            x.road2(0);
        }
        x.slow(0, true);
        x.turn(0, 1, false);
        x.change(0, false);
        x.size(2, 2, 2);
    }
}
