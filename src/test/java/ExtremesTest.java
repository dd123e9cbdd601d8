import java.lang.reflect.InvocationTargetException;
import java.lang.reflect.Method;
import java.lang.reflect.Modifier;

/** Every call with every mix of numbers from far below to far above: nothing is thrown, and each answer is the model's. */
final class ExtremesTest {
    private static final int LOW = Integer.MIN_VALUE, HIGH = Integer.MAX_VALUE, CALLS = 250;
    private static final int[] MANY = {LOW, -1, 0, 1, 2, 3, 5, 7, 8, 10, 40, HIGH}, SOME = {LOW, -1, 0, 1, 2, 9, 24, HIGH};
    private static final int[] FEW = {-1, 0, 1, 3, HIGH};

    private HiddenWorks x;
    private Model model;
    private int calls;

    private ExtremesTest() {
    }

    static void run() throws ReflectiveOperationException {
        for (int furnishing = 0; furnishing < 3; furnishing++) {
            for (Method method : HiddenWorks.class.getDeclaredMethods()) {
                if (Modifier.isPublic(method.getModifiers())) {
                    new ExtremesTest().tried(method, furnishing);
                }
            }
        }
    }

    private void tried(Method method, int furnishing) throws ReflectiveOperationException {
        Check.under("extremes of " + method.getName() + ", furnishing " + furnishing);
        Class<?>[] types = method.getParameterTypes();
        Method due = Model.class.getDeclaredMethod(method.getName(), types);
        int[] values = types.length <= 3 ? MANY : types.length == 4 ? SOME : FEW;
        int mixes = 1;
        for (int i = 0; i < types.length; i++) {
            mixes *= values.length;
        }
        calls = CALLS;
        for (int mix = 0; mix < mixes; mix++) {
            Object[] arguments = new Object[types.length];
            for (int i = 0, left = mix; i < types.length; i++, left /= values.length) {
                int value = values[left % values.length];
                arguments[i] = types[i] == long.class ? (Object) (value * 0x100000001L) : (Object) value;
            }
            if (calls == CALLS) {
                furnish(furnishing);
            }
            calls++;
            Check.due(method.getName() + java.util.Arrays.toString(arguments), answer(method, arguments),
                ((Number) due.invoke(model, arguments)).longValue());
        }
    }

    private long answer(Method method, Object[] arguments) throws IllegalAccessException {
        try {
            return ((Number) method.invoke(x, arguments)).longValue();
        } catch (InvocationTargetException e) {
            System.out.println(method.getName() + java.util.Arrays.toString(arguments) + " threw " + e.getCause());
            return Long.MIN_VALUE;
        }
    }

    /** 0 nothing, 1 some of everything, 2 as much as there may be. */
    private void furnish(int furnishing) {
        x = new HiddenWorks();
        model = new Model();
        calls = 0;
        if (furnishing == 0) {
            return;
        }
        String[] texts = {"k0 n3 c4 w3 0 4 2 1", "k4 n1 c24 w1 1 0", "k5 n10 c24 w3 0 0 9 1", "k1 n2 c0 w2 0 5 0",
            "k2 n5 c9 w3 0 1 0 99", "k3 n4 c7 w2 0 1 0"};
        for (int r = 0; r < 3 * furnishing; r++) {
            feed(texts[r]);
            x.recipe();
            model.recipe();
        }
        for (int t = 0; t < 4 * furnishing; t++) {
            x.make(t % (3 * furnishing), t);
            model.make(t % (3 * furnishing), t);
            if (t == 1) {
                x.image();
                model.image();
            }
        }
        for (int k = 0; k < 10 * furnishing; k++) {
            x.claim(k % 4, k + 1);
            model.claim(k % 4, k + 1);
        }
        for (int s = 0; s < 2 * furnishing; s++) {
            int size = furnishing == 1 ? 3 : 40;
            x.sheet(s, s % 3, size);
            model.sheet(s, s % 3, size);
            for (int i = 0; i < size && i < 20; i++) {
                x.cell(s, i, (i + 1) % 3);
                model.cell(s, i, (i + 1) % 3);
            }
        }
        feed(furnishing == 1 ? "k0 " : "k0 n0");
    }

    private void feed(String text) {
        for (int i = 0; i < text.length(); i++) {
            x.feed(text.charAt(i), 1);
            model.feed(text.charAt(i), 1);
        }
    }
}
