import java.lang.reflect.Method;
import java.util.ArrayList;
import java.util.Comparator;
import java.util.List;

/** Runs the tests of single sentences, those of a class by their names. */
final class Sentences {
    static final List<Class<?>> TESTS = List.of(EdgesOfStoresTest.class, EdgesOfCustomersTest.class,
            EdgesOfLawsAndPricesTest.class, EdgesOfAnHourTest.class, EdgesOfADayTest.class, EdgesOfWorthTest.class,
            EdgesOfAllTest.class);

    private Sentences() {
    }

    static List<Method> of(Class<?> tests) {
        List<Method> methods = new ArrayList<>();
        for (Method m : tests.getDeclaredMethods()) {
            if (m.isAnnotationPresent(Says.class)) {
                methods.add(m);
            }
        }
        methods.sort(Comparator.comparing(Method::getName));
        return methods;
    }

    static void test(Class<?> tests) throws ReflectiveOperationException {
        for (Method m : of(tests)) {
            m.setAccessible(true);
            Check.about(m.getName() + " (\"" + String.join("\", \"", m.getAnnotation(Says.class).value()) + "\")");
            int before = Check.many();
            m.invoke(null);
            Check.about("");
            Check.same(m.getName() + " checks something", Check.many() > before ? 1 : 0, 1);
        }
        Check.end();
    }
}
