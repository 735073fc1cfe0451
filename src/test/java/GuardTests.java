import java.lang.reflect.Field;
import java.lang.reflect.InvocationTargetException;
import java.lang.reflect.Method;
import java.lang.reflect.Modifier;
import java.util.NoSuchElementException;

/**
 * Each index is tested where it is used: even if a count inside the object were wrong, which no call makes it, the
 * machine would throw nothing, and each call would end.
 */
public final class GuardTests {
    private static final int[] WRONG_COUNTS = {-1000, -1, 7, 9, 10, 81, 99, 1000};
    private static final int[] ARGUMENTS = {0, 1, 2, 5, -1, 8, 200, Integer.MIN_VALUE, Integer.MAX_VALUE};
    private static final String[] TEXTS = {"", "+1x+1y<3", "d0", "b0+10", "s000", "c", "+1x+1y<3;", "s00"};
    private static int wrong = 0;
    private static int calls = 0;

    public static void main(String[] args) throws ReflectiveOperationException {
        for (Field holder : SplitSlices.class.getDeclaredFields()) {
            holder.setAccessible(true);
            boolean holds = !Modifier.isStatic(holder.getModifiers()) && !holder.getType().isArray();
            if (holds) {
                for (Field count : holder.getType().getDeclaredFields()) {
                    if (isCount(count)) {
                        count.setAccessible(true);
                        spoil(holder, count);
                    }
                }
            }
        }
        System.out.println(wrong == 0 ? "guards: " + calls + " calls as due" : "guards: " + wrong + " calls are not as due");
        if (wrong != 0 || calls == 0) {
            System.exit(1);
        }
    }

    private static boolean isCount(Field field) {
        return field.getType() == int.class && !Modifier.isStatic(field.getModifiers());
    }

    private static void spoil(Field holder, Field count) throws ReflectiveOperationException {
        for (int value : WRONG_COUNTS) {
            for (Method call : SplitSlices.class.getDeclaredMethods()) {
                if (Modifier.isPublic(call.getModifiers())) {
                    for (int i = 0; i < ARGUMENTS.length; i++) {
                        SplitSlices s = used(TEXTS[i % TEXTS.length]);
                        count.setInt(holder.get(s), value);
                        String where = holder.getName() + "." + count.getName() + " " + value;
                        call(where, s, call, i);
                    }
                }
            }
        }
    }

    /** With ROWS, STORE, a history and THE TEXT as told. */
    private static SplitSlices used(String text) {
        SplitSlices s = new SplitSlices();
        s.adds(2, 2, 7);
        s.adds(-3, 5, 9);
        s.stores(0, 0, 0);
        s.stores(1, 1, 0);
        s.keep(0);
        s.hull();
        for (int i = 0; i < text.length(); i += 4) {
            int four = 0;
            for (int j = i; j < i + 4; j++) {
                four = four << 8 | (j < text.length() ? text.charAt(j) : 0);
            }
            s.sign(four);
        }
        s.end(text.length());
        return s;
    }

    /** The first argument goes with the text; the others are met in each order. */
    private static void call(String where, SplitSlices s, Method call, int from) throws ReflectiveOperationException {
        Object[] all = new Object[call.getParameterCount()];
        for (int shift = 0; shift < ARGUMENTS.length; shift++) {
            for (int i = 0; i < all.length; i++) {
                all[i] = ARGUMENTS[(from + i * shift) % ARGUMENTS.length];
            }
            calls++;
            try {
                call.invoke(s, all);
            } catch (InvocationTargetException e) {
                if (!(e.getCause() instanceof NoSuchElementException)) {
                    wrong++;
                    System.out.println("guards: " + where + ", " + call.getName() + " throws " + e.getCause());
                }
            }
        }
    }
}
