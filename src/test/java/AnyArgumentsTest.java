import java.lang.reflect.InvocationTargetException;
import java.lang.reflect.Method;
import java.lang.reflect.Modifier;
import java.util.Random;

/** Every call with any arguments in any state: none may throw. */
public final class AnyArgumentsTest {
    private static final int[] SOME = {Integer.MIN_VALUE, Integer.MIN_VALUE + 1, -65536, -101, -100, -17, -3, -2, -1, 0,
        1, 2, 3, 5, 6, 7, 9, 10, 12, 15, 16, 20, 23, 24, 38, 39, 40, 60, 61, 76, 99, 100, 101, 160, 161, 240, 241, 260,
        511, 65535, 65536, 0x7F7F7F7F, 0xFF00FF00, Integer.MAX_VALUE - 1, Integer.MAX_VALUE};

    public static void main(String[] args) throws IllegalAccessException {
        Random random = new Random(7);
        int calls = 0;
        for (int run = 0; run < 300; run++) {
            GrownInitials g = new GrownInitials();
            if (run % 3 != 0) {
                Due.bark(g, "0,0:A;5,5:[BC]12>;5,5:xD&;9,0:E;0,9:F;3,3:G;4,4:H;7,7:I;8,8:J;9,9:K;1,1:L");
                Due.law(g, "v9/[w-3](m/[k-1]>w|n>0);f[7-w]%[c-2](1=1);x(w=3&t/[s-1]=c)");
            }
            for (int i = 0; i < 512; i++) {
                calls += call(g, random);
            }
        }
        System.out.println("AnyArgumentsTest: " + calls + " calls, none threw");
    }

    private static int call(GrownInitials g, Random random) throws IllegalAccessException {
        Method[] all = GrownInitials.class.getDeclaredMethods();
        Method m = all[random.nextInt(all.length)];
        if (!Modifier.isPublic(m.getModifiers())) {
            return 0;
        }
        Object[] with = new Object[m.getParameterCount()];
        for (int i = 0; i < with.length; i++) {
            with[i] = random.nextInt(8) == 0 ? random.nextInt() : SOME[random.nextInt(SOME.length)];
        }
        try {
            m.invoke(g, with);
        } catch (InvocationTargetException e) {
            System.out.println(m.getName() + java.util.Arrays.toString(with) + " threw " + e.getCause());
            System.exit(1);
        }
        return 1;
    }
}
