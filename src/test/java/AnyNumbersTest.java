import java.lang.reflect.InvocationTargetException;
import java.lang.reflect.Method;
import java.util.Arrays;
import java.util.Comparator;

/** Whatever numbers a call is given, in whatever state: it throws nothing, and two objects alike answer alike. */
public final class AnyNumbersTest {
    static final int[] NUMBERS = {0, 1, -1, 2, 3, 5, 6, 9, 10, 15, 16, 63, 64, 99, 100, 120, 121, 127, 128, 199, 200, 400,
        401, -2, -200, -201, Integer.MAX_VALUE, Integer.MIN_VALUE, Integer.MIN_VALUE + 10};
    static int wrong = 0;

    static void say(String what) {
        wrong++;
        if (wrong < 30) {
            System.out.println(what);
        }
    }

    static Object answer(Method call, DrunkByYear x, Object[] numbers) throws IllegalAccessException {
        try {
            return call.invoke(x, numbers);
        } catch (InvocationTargetException e) {
            say(call.getName() + Arrays.toString(numbers) + " threw " + e.getCause());
            return null;
        }
    }

    /** A call with all numbers in all places; it goes on in what it leaves. */
    static void ask(Method call, DrunkByYear one, DrunkByYear other) throws IllegalAccessException {
        int places = call.getParameterCount();
        int ways = 1;
        for (int i = 0; i < places; i++) {
            ways *= NUMBERS.length;
        }
        int step = ways > 100000 ? 7 : 1;
        for (int way = 0; way < ways; way += step) {
            Object[] numbers = new Object[places];
            for (int i = 0, rest = way; i < places; i++, rest /= NUMBERS.length) {
                numbers[i] = NUMBERS[rest % NUMBERS.length];
            }
            Object got = answer(call, one, numbers), same = answer(call, other, numbers);
            if (got != null && !got.equals(same)) {
                say(call.getName() + Arrays.toString(numbers) + " answered " + got + " and " + same);
            }
        }
    }

    static DrunkByYear full() {
        DrunkByYear x = Sentences.rich();
        x.person(2, 5, 80, 70);
        x.person(5, 6, 90, 80);
        x.blend(0, 1);
        x.vintage(199, 99);
        for (int i = 0; i < 5; i++) {
            Sentences.village(x, "old 3;bold 9 !(!(!p<3|a>2&h<9)|s=3)");
        }
        for (int i = 0; i < 100; i++) {
            x.see(5, 10);
            x.night(i % 3, i % 6, i % 5);
            x.book(i % 6, 30);
            x.feed('!');
        }
        return x;
    }

    public static void main(String[] args) throws IllegalAccessException {
        Method[] calls = DrunkByYear.class.getDeclaredMethods();
        Arrays.sort(calls, Comparator.comparing(Method::getName));
        int asked = 0;
        for (Method call : calls) {
            if (java.lang.reflect.Modifier.isPublic(call.getModifiers())) {
                ask(call, new DrunkByYear(), new DrunkByYear());
                ask(call, Sentences.rich(), Sentences.rich());
                ask(call, full(), full());
                asked++;
            }
        }
        DrunkByYear one = full(), other = full();
        for (Method call : calls) {
            if (java.lang.reflect.Modifier.isPublic(call.getModifiers())) {
                ask(call, one, other);
            }
        }
        if (asked != 37) {
            say(asked + " calls, not 37");
        }
        System.out.println(wrong == 0 ? "no number is too much" : wrong + " calls went wrong");
        if (wrong != 0) System.exit(1);
    }
}
