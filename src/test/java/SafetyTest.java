import java.lang.reflect.InvocationTargetException;
import java.lang.reflect.Method;
import java.lang.reflect.Modifier;
import java.util.ArrayList;
import java.util.Comparator;
import java.util.List;
import java.util.NoSuchElementException;
import java.util.Random;

/** Any arguments in any state: nothing is thrown but what the document says, and where it says so. */
public final class SafetyTest {
    private static final String MAY_THROW = " of change laws fool row ";
    private static final int[] EDGES = {Integer.MIN_VALUE, Integer.MIN_VALUE + 1, Integer.MAX_VALUE, -256, -101, -100, -10, -9, -2, -1, 0, 1, 2, 3, 4,
        5, 6, 7, 8, 9, 10, 11, 12, 13, 20, 21, 31, 32, 59, 60, 61, 76, 80, 99, 100, 255, 256, 998, 999, 1000, 1010, 1011, 65535};
    private static final String SIGNS = "0123456789+-*/<>=();abcdefghiwpvqstno";

    private SafetyTest() {
    }

    public static void main(String[] args) throws Exception {
        List<Method> face = new ArrayList<>();
        for (Method m : HeavierServes.class.getDeclaredMethods()) {
            if (Modifier.isPublic(m.getModifiers())) {
                face.add(m);
            } else if (!Modifier.isPrivate(m.getModifiers())) {
                throw new IllegalStateException(m + " is neither public nor private");
            }
        }
        face.sort(Comparator.comparing(Method::getName));
        Random random = new Random(7);
        int calls = 0;
        for (int run = 0; run < 300; run++) {
            HeavierServes x = new HeavierServes();
            for (int k = 0; k < 512; k++) {
                call(x, face.get(random.nextInt(face.size())), random);
                calls++;
            }
        }
        System.out.println(calls + " calls threw nothing but what they may");
    }

    private static void call(HeavierServes x, Method m, Random random) throws Exception {
        if (" town will habit year ".contains(" " + m.getName() + " ")) {
            type(x, m.getName(), random);
        }
        Object[] args = new Object[m.getParameterCount()];
        for (int k = 0; k < args.length; k++) {
            args[k] = random.nextInt(3) == 0 ? EDGES[random.nextInt(EDGES.length)] : random.nextInt(8);
        }
        try {
            m.invoke(x, args);
        } catch (InvocationTargetException e) {
            boolean may = e.getCause().getClass() == NoSuchElementException.class && MAY_THROW.contains(" " + m.getName() + " ");
            if (!may) {
                System.out.println(m.getName() + java.util.Arrays.toString(args) + " threw " + e.getCause());
                e.getCause().printStackTrace(System.out);
                System.exit(1);
            }
        }
    }

    /** Half a text that may be good, half one of any signs. */
    private static void type(HeavierServes x, String name, Random random) {
        StringBuilder s = new StringBuilder();
        if (random.nextBoolean()) {
            String[] parts = name.equals("town") ? new String[] {"12*1+3", ";", "99", "-4", "*2"}
                : name.equals("will") ? new String[] {"(w", ")", "*-v", "/(n-3", "<", "o", "s+1", "-"}
                : name.equals("habit") ? new String[] {"+3", "-9", "+0"} : new String[] {"a", "b", ";", "ch", ";d"};
            for (int k = random.nextInt(12); k > 0; k--) {
                s.append(parts[random.nextInt(parts.length)]);
            }
        } else {
            for (int k = random.nextInt(80); k > 0; k--) {
                s.append(SIGNS.charAt(random.nextInt(SIGNS.length())));
            }
        }
        for (int k = 0; k < s.length() && k < 80; k += 4) {
            int v = 0;
            for (int j = 0; j < 4; j++) {
                v = v << 8 | (k + j < s.length() ? s.charAt(k + j) : 0);
            }
            x.sign(v);
        }
        x.end(s.length());
    }
}
