import java.lang.management.ManagementFactory;
import java.lang.reflect.InvocationTargetException;
import java.lang.reflect.Method;
import java.util.Arrays;
import java.util.Random;

/** No call throws, whatever it is given in whatever state; and calls make next to no objects. */
public final class EdgeTest {
    private static final Check CHECK = new Check("EdgeTest");
    private static final int[] EDGES = {Integer.MIN_VALUE, -1000000, -3, -2, -1, 0, 1, 2, 3, 5, 6, 8, 9, 13, 14, 15, 29, 30,
        31, 32, 33, 59, 60, 61, 63, 64, 99, 100, 999, 1000, 1001, 1599, 1600, 1601, 65536, Integer.MAX_VALUE};
    private static final String FULL = "person a firm 0 learns 1 lumps 99;person b firm 30 learns 9;person c firm 7 lumps 9;"
        + "person d firm 3;person e firm 30;person f firm 11 learns 4;meet a b on 0;meet b c on 1;meet c d on 1;"
        + "meet d e on 2;meet e f on 3;meet f a on 4;meet a c on 5;meet b e on 6;meet d f on 6;"
        + "brother x cools 20 round f e d c b a;brother y cools 1 round a b c d e f;"
        + "lumps (own - other) * 9999 * 9999 / (day % 2) + (not sore % own) * 9 + 5 / (week - 1);bed 99;flares 100;draw 999;";

    public static void main(String[] args) throws IllegalAccessException {
        Method[] face = Arrays.stream(NettleGreen.class.getDeclaredMethods())
            .filter(m -> java.lang.reflect.Modifier.isPublic(m.getModifiers()))
            .sorted(java.util.Comparator.comparing(Method::getName)).toArray(Method[]::new);
        for (int seed = 0; seed < 300; seed++) {
            randomCalls(face, seed);
        }
        anyBytes();
        room();
        CHECK.end();
    }

    private static void randomCalls(Method[] face, int seed) throws IllegalAccessException {
        Random random = new Random(seed);
        NettleGreen green = new NettleGreen();
        if (seed % 3 > 0) {
            green = CHECK.told(seed % 3 == 1 ? FULL : "person a firm 0;");
        }
        for (int i = 0; i < 450; i++) {
            Method method = face[random.nextInt(face.length)];
            if (method.getName().equals("hamlet") && random.nextInt(10) > 0) {
                continue;
            }
            Object[] arguments = new Object[method.getParameterCount()];
            for (int j = 0; j < arguments.length; j++) {
                boolean isBit = method.getParameterTypes()[j] == boolean.class;
                arguments[j] = isBit ? (Object) random.nextBoolean() : (Object) EDGES[random.nextInt(EDGES.length)];
            }
            try {
                method.invoke(green, arguments);
            } catch (InvocationTargetException e) {
                CHECK.due("seed " + seed + ": " + method.getName() + Arrays.toString(arguments) + " threw " + e.getCause(), 1, 0);
            }
        }
    }

    /** Texts of 1,600 bytes that are letters, digits, brackets, nots alone, or anything. */
    private static void anyBytes() {
        Random random = new Random(7);
        for (String part : new String[] {"a", "1", "(", "not ", " ", "lumps", "person a firm 1;", "\u00ff", "\u0000", "-"}) {
            NettleGreen green = new NettleGreen();
            Check.put(green, ("lumps " + part.repeat(1600)).substring(0, 1600));
            CHECK.due("a long text of " + part, green.hamlet(), -1);
            CHECK.due("the tape is empty behind it", green.about(10), 0);
        }
        for (int i = 0; i < 2000; i++) {
            NettleGreen green = new NettleGreen();
            for (int j = 0; j < 5; j++) {
                green.feed(random.nextInt(), random.nextInt(), random.nextInt(), random.nextInt(), random.nextInt());
            }
            green.hamlet();
        }
    }

    /** 500 dear calls on one object may not make more than a small part of the room's objects. */
    private static void room() {
        com.sun.management.ThreadMXBean bean = (com.sun.management.ThreadMXBean) ManagementFactory.getThreadMXBean();
        NettleGreen green = CHECK.told(FULL.replace("lumps 99", "lumps 9"));
        long thread = Thread.currentThread().getId();
        dearCalls(green);
        long before = bean.getThreadAllocatedBytes(thread);
        for (int i = 0; i < 10; i++) {
            dearCalls(green);
        }
        long made = bean.getThreadAllocatedBytes(thread) - before;
        CHECK.due("bytes made by 200 dear calls: " + made, made < 100000, true);
    }

    private static void dearCalls(NettleGreen green) {
        green.peace(14, 1);
        green.rounds(0, 14);
        green.rounds(1, 14);
        green.grip(0, 30);
        green.pupil(30, 1);
        green.evenings();
        green.manners();
        green.duel(0);
        green.scourge(1);
        green.relief(0, 1);
        green.law(30);
        green.next(0);
        green.day();
        green.undo();
        green.redo();
        green.fits(0);
        green.ask(14, 1, 0);
        green.image(0);
        green.back(0);
        green.will(0, 60, 1);
    }
}
