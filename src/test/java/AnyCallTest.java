import java.lang.reflect.InvocationTargetException;
import java.lang.reflect.Method;
import java.lang.reflect.Modifier;
import java.util.ArrayList;
import java.util.Comparator;
import java.util.List;

/** Every call of the face, with numbers at and far beyond every limit, in states at their limits: none may throw. */
public final class AnyCallTest {
    private static final int[] MANY = {
        Integer.MIN_VALUE, Integer.MIN_VALUE + 1, Integer.MIN_VALUE + 4, -1000001, -13, -12, -7, -4, -2, -1, 0, 1, 2, 3, 4, 5, 6, 7, 8, 9, 10,
        11, 12, 13, 15, 16, 17, 18, 19, 20, 21, 22, 24, 30, 31, 99, 100, 400, 401, 999, 1000, 1000000, 1000001, 1000003, 1 << 30,
        Integer.MAX_VALUE - 4, Integer.MAX_VALUE - 1, Integer.MAX_VALUE
    };
    private static final int[] FEW = {Integer.MIN_VALUE, -2, -1, 0, 1, 2, 3, 9, 12, 99, 100, 999, 1000, Integer.MAX_VALUE};
    private static final int LEAST_ANSWER = -6;

    private static int calls = 0;
    private static int wrong = 0;

    private static OneBullet full(int kind, String law) {
        OneBullet x = new OneBullet();
        for (int k = 0; k < 12; k++) x.place(kind < 0 ? k % 4 : kind, 8 * k, k);
        for (int k = 0; k < 10; k++) x.person(k, k % 2);
        for (int k = 0; k < 7; k++) x.quarrel(k, k + 1, 11 - k, 900);
        for (int k = 0; k < 6; k++) Checks.law(x, law);
        x.force(5);
        x.image(0);
        Checks.orders(x, "fire 0 at 1 times 20; fire 1 at 3 times 20");
        return x;
    }

    private static OneBullet state(int which) {
        switch (which) {
            case 0: return new OneBullet();
            case 1: return Checks.province();
            case 2: return full(3, "aims 1/0; wears 1; flattens 1000*1000*1000+1; bars if 1%0=0");
            case 3: return full(0, "aims person; wears dents % 3; flattens place; prices 1000 * dents; bars if person = 9");
            case 4: return full(2, "aims 0");
            default: return full(-1, "wears 99; flattens 99; aims 10");
        }
    }

    private static void call(OneBullet x, Method m, Object[] with) throws Exception {
        calls++;
        try {
            int answer = (Integer) m.invoke(x, with);
            if (answer < LEAST_ANSWER) tell(m, with, "answered " + answer);
        } catch (InvocationTargetException e) {
            tell(m, with, "threw " + e.getCause());
        }
    }

    private static void tell(Method m, Object[] with, String what) {
        wrong++;
        System.out.println(m.getName() + List.of(with) + " " + what);
    }

    /** All rows of the values as arguments, the last one first. */
    private static void callWithAll(OneBullet x, Method m, int[] values) throws Exception {
        int many = m.getParameterCount();
        int[] which = new int[many];
        Object[] with = new Object[many];
        boolean more = true;
        while (more) {
            for (int k = 0; k < many; k++) with[k] = values[which[k]];
            call(x, m, with);
            int k = 0;
            while (k < many && ++which[k] == values.length) which[k++] = 0;
            more = k < many;
        }
    }

    public static void main(String[] args) throws Exception {
        List<Method> methods = new ArrayList<>();
        for (Method m : OneBullet.class.getDeclaredMethods()) if (Modifier.isPublic(m.getModifiers())) methods.add(m);
        methods.sort(Comparator.comparing(Method::getName));
        for (int which = 0; which < 6; which++) {
            for (Method m : methods) {
                // Each in the state as it is at first; what it left behind is asked by all others with few numbers.
                OneBullet x = state(which);
                callWithAll(x, m, m.getParameterCount() < 3 ? MANY : FEW);
                for (Method other : methods) if (other.getParameterCount() < 3) callWithAll(x, other, FEW);
            }
        }
        System.out.println(calls + " calls, " + wrong + " that throw or can't be");
        if (wrong != 0 || methods.size() != 37) System.exit(1);
    }
}
