import java.lang.reflect.InvocationTargetException;
import java.lang.reflect.Method;
import java.util.NoSuchElementException;
import java.util.Random;

/** Whatever is asked in whatever state: nothing is thrown but by tap, and calls make next to nothing. */
public final class ExtremesTest {
    private static final int[] EDGES = {Integer.MIN_VALUE, Integer.MIN_VALUE + 1, Integer.MAX_VALUE, Integer.MAX_VALUE - 1, -1000000000,
        -256, -255, -100, -1, 0, 1, 2, 3, 4, 5, 6, 7, 9, 12, 13, 18, 20, 31, 40, 60, 63, 64, 99, 127, 240, 255, 256, 512, 9999, 0x3b3b3b3b,
        0x31313131, 0x2d2d2d2d, 0x64726f70};

    private static final String[] LINES = {"pulse 60,-60,60,-60,60,60,60,60,60,60,60,60,60,60,60,60;fore 3;back 3;delay 2;level 99;track 1;lock 1;noise 4",
        "pulse 0;fore 1;back 0;level 1;gear 9;floor 0", "pulse 1;fore 3;back 3;delay 2;word 1,0;train 99;floor 60", "pulse -60,0,0,0,-60;fore 1;back 3;lock 9"};

    public static void main(String[] args) {
        Random random = new Random(7);
        Method[] methods = HuntedEye.class.getDeclaredMethods();
        java.util.Arrays.sort(methods, java.util.Comparator.comparing(Method::toString));
        for (int object = 0; object < 400; object++) {
            HuntedEye x = new HuntedEye();
            if (object % 5 != 4) Check.retell(x, LINES[object % 4]);
            if (object % 3 == 0) Check.script(x, "tap 0,255;tap 1,-255;send 60;tap 2,255;send 60;seek;send 60");
            for (int i = 0; i < 490; i++) {
                Method m = methods[random.nextInt(methods.length)];
                if (java.lang.reflect.Modifier.isPublic(m.getModifiers())) call(x, m, random);
            }
        }
        room();
        Check.finish();
    }

    private static void call(HuntedEye x, Method m, Random random) {
        Object[] values = new Object[m.getParameterCount()];
        StringBuilder told = new StringBuilder(m.getName());
        for (int i = 0; i < values.length; i++) {
            int v = random.nextInt(4) == 0 ? random.nextInt() : EDGES[random.nextInt(EDGES.length)];
            values[i] = m.getParameterTypes()[i] == long.class ? (Object) (v * 4294967311L) : (Object) v;
            told.append(' ').append(values[i]);
        }
        try {
            m.invoke(x, values);
        } catch (InvocationTargetException e) {
            boolean mayBe = m.getName().equals("tap") && e.getCause() instanceof NoSuchElementException;
            Check.due(told + " threw " + e.getCause(), mayBe, true);
        } catch (IllegalAccessException e) {
            throw new IllegalStateException(e);
        }
    }

    /** All calls of one run live in one room, so they work on rows that the constructor made. */
    private static void room() {
        HuntedEye x = Check.line(LINES[0]);
        int script = Check.script(x, "send 60;drop;send 60;tap 0,9");
        dearCalls(x, script);
        com.sun.management.ThreadMXBean threads = (com.sun.management.ThreadMXBean) java.lang.management.ManagementFactory.getThreadMXBean();
        long before = threads.getThreadAllocatedBytes(Thread.currentThread().getId());
        dearCalls(x, script);
        long made = threads.getThreadAllocatedBytes(Thread.currentThread().getId()) - before;
        Check.due("calls made " + made + " bytes", made < 10000, true);
    }

    private static void dearCalls(HuntedEye x, int script) {
        for (int i = 0; i < 12; i++) {
            x.fault(0);
            x.fault(1);
            x.send(10);
            x.years(5, i);
            x.undo();
            x.image();
            x.run(script, 0);
            x.perform(script);
            x.back();
            x.seek();
            x.map(0);
            x.bears(0);
            x.bursts();
            x.improved(0, 0);
            x.settled(0);
            x.quickest(0);
            x.coming(60, 0);
            x.gain(60);
            x.worst(6, 0);
            x.odds(4);
        }
    }
}
