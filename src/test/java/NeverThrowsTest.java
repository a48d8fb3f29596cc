import java.lang.reflect.Method;
import java.lang.reflect.Modifier;
import java.util.ArrayList;
import java.util.Comparator;
import java.util.List;
import java.util.Random;

/** Any call with any arguments in any state ends without throwing, far beyond the 512th too. */
public final class NeverThrowsTest {
    private static final int[] ODD = {Integer.MIN_VALUE, Integer.MIN_VALUE + 1, -181, -100, -3, -2,
            -1, 100, 180, 181, 239, 240, 255, 256, 999, 1000, 1 << 30, Integer.MAX_VALUE - 20,
            Integer.MAX_VALUE};

    public static void main(String[] args) throws Exception {
        Check check = new Check();
        List<Method> methods = new ArrayList<>();
        for (Method method : SaidRecord.class.getDeclaredMethods()) {
            if (Modifier.isPublic(method.getModifiers())) {
                methods.add(method);
            }
        }
        methods.sort(Comparator.comparing(Method::getName));
        Random random = new Random(5);
        for (int run = 0; run < 150; run++) {
            check.part("run " + run);
            SaidRecord x = new SaidRecord();
            for (int call = 0; call < 2000; call++) {
                if (random.nextInt(60) == 0) {
                    Check.feed(x, new RandomText(random, run % 2 == 0).text());
                    x.read();
                }
                Method method = methods.get(random.nextInt(methods.size()));
                Object[] given = new Object[method.getParameterCount()];
                for (int i = 0; i < given.length; i++) {
                    given[i] = random.nextInt(8) == 0 ? ODD[random.nextInt(ODD.length)]
                            : random.nextInt(1 + random.nextInt(12));
                }
                check.due(method.getName(), call(x, method, given), true);
            }
        }
        check.end();
    }

    private static boolean call(SaidRecord x, Method method, Object[] given) throws Exception {
        try {
            method.invoke(x, given);
            return true;
        } catch (java.lang.reflect.InvocationTargetException thrown) {
            System.out.println(thrown.getCause());
            return false;
        }
    }
}
