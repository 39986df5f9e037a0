import java.lang.reflect.InvocationTargetException;
import java.lang.reflect.Method;
import java.lang.reflect.Modifier;
import java.util.ArrayList;
import java.util.Arrays;
import java.util.Comparator;
import java.util.List;
import java.util.NoSuchElementException;
import java.util.Random;

/** Any arguments in any state: nothing is thrown but what the document names. */
public final class HostileTest {
    private static final int RUNS = 3000;
    private static final int CALLS = 512;
    private static final int[] FAR = {Integer.MIN_VALUE, Integer.MIN_VALUE + 1, -101, -100, -4, -3, -2, -1, 8, 9, 10, 11, 12,
        13, 20, 21, 99, 100, 101, 200, 201, 299, 300, 301, 1000, 1001, 20000, 20001, Integer.MAX_VALUE - 1, Integer.MAX_VALUE};
    private static int wrong = 0;

    public static void main(String[] args) throws IllegalAccessException {
        List<Method> methods = publicMethods();
        for (int seed = 0; seed < RUNS && wrong < 20; seed++) {
            hostileRun(methods, new Random(seed), seed);
        }
        longestRun();
        System.out.println(wrong == 0 ? "hostile: nothing else was thrown" : "hostile: " + wrong + " faults");
        if (wrong != 0) {
            System.exit(1);
        }
    }

    private static void fault(String text) {
        wrong++;
        System.out.println(text);
    }

    private static List<Method> publicMethods() {
        List<Method> methods = new ArrayList<>();
        for (Method m : CharcoalYard.class.getDeclaredMethods()) {
            if (Modifier.isPublic(m.getModifiers())) {
                methods.add(m);
            }
        }
        methods.sort(Comparator.comparing(Method::getName));
        return methods;
    }

    private static void hostileRun(List<Method> methods, Random random, int seed) throws IllegalAccessException {
        CharcoalYard yard = new CharcoalYard();
        for (int call = 0; call < CALLS; call++) {
            Method m = methods.get(random.nextInt(methods.size()));
            if (m.getName().equals("clamp") && random.nextInt(4) > 0 || m.getName().equals("rake") && random.nextInt(4) > 0) {
                continue;
            }
            Object[] arguments = new Object[m.getParameterCount()];
            for (int i = 0; i < arguments.length; i++) {
                arguments[i] = m.getParameterTypes()[i] == boolean.class ? (Object) random.nextBoolean() : (Object) number(random);
            }
            if (m.getName().equals("sign") && random.nextBoolean()) {
                arguments[0] = signs(random);
            }
            try {
                m.invoke(yard, arguments);
            } catch (InvocationTargetException e) {
                boolean may = m.getName().equals("cell") || m.getName().equals("stand");
                if (!may || e.getCause().getClass() != NoSuchElementException.class) {
                    fault("seed " + seed + ": " + m.getName() + Arrays.toString(arguments) + " threw " + e.getCause());
                }
            }
        }
    }

    private static int number(Random random) {
        int dice = random.nextInt(10);
        if (dice == 0) {
            return FAR[random.nextInt(FAR.length)];
        }
        return dice == 1 ? random.nextInt() : random.nextInt(dice < 6 ? 3 : 9);
    }

    private static int signs(Random random) {
        String[] fours = {"s>0:", "t>1&", "+012", "~~~~", "k=99", ":^^^", "12:-"};
        String four = fours[random.nextInt(fours.length)];
        int v = 0;
        for (int i = 0; i < 4; i++) {
            v = v << 8 | four.charAt(i);
        }
        return v;
    }

    /** The dearest run: the greatest clamp, all hours, and the rest of the calls work all of them again. */
    private static void longestRun() {
        CharcoalYard yard = new CharcoalYard();
        yard.clamp(8, 8);
        for (int height = 0; height < 8; height++) {
            yard.layRow(height, 2, 8, 0, 0);
        }
        for (int i = 0; i < 12; i++) {
            yard.hole(7, i % 8);
            yard.open(i, i % 3 == 0);
        }
        yard.light();
        for (int i = 0; i < 300; i++) {
            yard.hour(i % 2, i % 4);
        }
        int coal = CharcoalYard.NONE;
        for (int i = 0; i < 160; i++) {
            coal = yard.again(i, 0, 1);
        }
        if (coal != yard.all(2) || yard.all(0) != yard.all(1) + yard.all(2) + yard.all(3) + yard.all(4)) {
            fault("the longest run lost something");
        }
        if (yard.rake() != coal / 25 || yard.count(2) != 12 || yard.count(3) != 0) {
            fault("twelve holes are not all shut behind rake()");
        }
    }
}
