import java.lang.reflect.Method;
import java.util.ArrayList;
import java.util.Comparator;
import java.util.List;

/** The tests of the document's boundary cases: each method of them that bears a Sentence is one test. */
final class Boundaries {
    static final List<Class<?>> TESTS = List.of(TermsBoundariesTest.class, LineBoundariesTest.class,
            TrainBoundariesTest.class, ForecastBoundariesTest.class, TotalsBoundariesTest.class,
            ProgramBoundariesTest.class, OutputBoundariesTest.class, UndoBoundariesTest.class);

    static final Class<IndexOutOfBoundsException> INDEX = IndexOutOfBoundsException.class;
    static final Class<IllegalArgumentException> ARGUMENT = IllegalArgumentException.class;
    static final Class<IllegalStateException> STATE = IllegalStateException.class;
    static final Class<java.util.NoSuchElementException> NO_ELEMENT = java.util.NoSuchElementException.class;
    static final Class<ArithmeticException> DIVISION = ArithmeticException.class;
    static final Class<UnsupportedOperationException> UNSUPPORTED = UnsupportedOperationException.class;

    private Boundaries() {
    }

    static List<Method> list(Class<?> test) {
        List<Method> methods = new ArrayList<>();
        for (Method method : test.getDeclaredMethods()) {
            if (method.isAnnotationPresent(Sentence.class)) {
                methods.add(method);
            }
        }
        methods.sort(Comparator.comparing(Method::getName));
        return methods;
    }

    static void ask(Class<?> test) throws ReflectiveOperationException {
        Due.is("it is one of Boundaries.TESTS: " + test.getSimpleName(), TESTS.contains(test), true);
        for (Method method : list(test)) {
            Due.about(method.getAnnotation(Sentence.class).under() + ", " + method.getName() + ": ");
            int before = Due.countAsked();
            method.invoke(null);
            Due.is("asks something", Due.countAsked() > before, true);
        }
        Due.about("");
        Due.end();
    }

    /**
     * Numbers that are not in the range: its neighbours, the farthest ones, and some that would be in it if they were
     * cut to 8 or 16 bits.
     */
    static int[] outside(int least, int most) {
        return new int[] {least - 1, most + 1, Integer.MIN_VALUE, Integer.MAX_VALUE, least + 256, most - 256,
            least + 65536, most - 65536, Integer.MIN_VALUE + least, -most - 1};
    }
}
