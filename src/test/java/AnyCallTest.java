import java.lang.reflect.InvocationTargetException;
import java.lang.reflect.Method;
import java.lang.reflect.Modifier;
import java.util.ArrayList;
import java.util.Comparator;
import java.util.List;
import java.util.Random;

/** Random calls, from fixed seeds, with any numbers at all, far beyond an object's 512: none throws (LANGUAGE.md, 7). */
public final class AnyCallTest {
    private static final int OBJECTS = 60;
    private static final int CALLS = 3000;

    public static void main(String[] args) throws IllegalAccessException {
        List<Method> calls = new ArrayList<>();
        for (Method m : MachineHall.class.getDeclaredMethods()) {
            if (Modifier.isPublic(m.getModifiers())) {
                calls.add(m);
            }
        }
        calls.sort(Comparator.comparing(Method::getName));
        int wrong = 0;
        for (int seed = 0; seed < OBJECTS; seed++) {
            wrong += run(new Random(seed), calls, seed);
        }
        System.out.println("AnyCallTest: " + OBJECTS * CALLS + " calls, " + wrong + " wrong");
        if (wrong != 0) {
            System.exit(1);
        }
    }

    private static int run(Random r, List<Method> calls, int seed) throws IllegalAccessException {
        MachineHall x = new MachineHall();
        int wild = 1 + r.nextInt(30);
        for (int i = 0; i < CALLS; i++) {
            Method m = calls.get(r.nextInt(calls.size()));
            Class<?>[] types = m.getParameterTypes();
            Object[] told = new Object[types.length];
            StringBuilder text = new StringBuilder(m.getName());
            for (int j = 0; j < told.length; j++) {
                told[j] = types[j] == boolean.class ? (Object) r.nextBoolean()
                    : types[j] == long.class ? (Object) longOf(r) : (Object) intOf(r, wild);
                text.append(' ').append(told[j]);
            }
            try {
                m.invoke(x, told);
                // with a status each, 256 are within the 512 for which an object's answers are promised
                if (i < 256 && (x.status() < 0 || x.status() > 8)) {
                    System.out.println("seed " + seed + ", call " + i + ": " + text + " has status " + x.status());
                    return 1;
                }
            } catch (InvocationTargetException thrown) {
                System.out.println("seed " + seed + ", call " + i + ": " + text + " threw " + thrown.getCause());
                return 1;
            }
        }
        return 0;
    }

    private static long longOf(Random r) {
        return r.nextInt(4) == 0 ? r.nextLong() : r.nextInt(120);
    }

    private static int intOf(Random r, int wild) {
        switch (r.nextInt(wild)) {
            case 0:
                int[] ends = {Integer.MIN_VALUE, Integer.MIN_VALUE + 1, -2, -1, 31, 32, 33, 63, 64, 65, 1 << 30,
                    Integer.MAX_VALUE - 1, Integer.MAX_VALUE};
                return ends[r.nextInt(ends.length)];
            case 1:
                return r.nextInt();
            case 2:
                return r.nextInt(1100);
            case 3:
            case 4:
                return r.nextInt(101);
            case 5:
            case 6:
            case 7:
                return 12 + r.nextInt(13);
            default:
                return r.nextInt(12);
        }
    }
}
