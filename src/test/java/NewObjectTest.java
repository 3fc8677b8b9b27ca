import java.lang.reflect.Modifier;
import java.util.Arrays;
import java.util.TreeSet;

/** Promise 1, and the public face. */
public final class NewObjectTest {
    public static void main(String[] args) {
        nothingIsThere();
        objectsAreApart();
        constants();
        face();
        Check.end();
    }

    private static void nothingIsThere() {
        Gasvault v = new Gasvault();
        for (int what = 0; what < 8; what++) {
            Check.same("new of(" + what + ")", v.of(what), 0);
        }
        Check.same("new pressure(0)", Check.answer(v, x -> x.pressure(0)), Check.INDEX.getName());
        Check.same("new flow(0)", Check.answer(v, x -> x.flow(0)), Check.INDEX.getName());
        Check.same("new heat", new Gasvault().heat(5), 10000);
        Check.same("new first store", new Gasvault().store(0, 1, 0, 0, 0, 0), 0);
        Check.same("new first customer", new Gasvault().customer(1, 0, 0, 0), 0);
        Check.same("new first law", new Gasvault().law(0, 0, 0), 1);
        Check.same("new first price", new Gasvault().price(0, 3), 0);
        Check.same("new passes", new Gasvault().pass(240), 240);
    }

    private static void objectsAreApart() {
        String alone = Look.ahead(Scenes.busy(), 2);
        Gasvault one = Scenes.busy();
        Gasvault other = Scenes.full();
        other.heat(3);
        other.pass(100);
        Check.same("an object beside another one", Look.ahead(one, 2), alone);
    }

    private static void constants() {
        Check.same("NONE", Gasvault.NONE, -1);
        Check.same("FIELD", Gasvault.FIELD, 0);
        Check.same("CAVERN", Gasvault.CAVERN, 1);
        Check.same("LAYER", Gasvault.LAYER, 2);
    }

    private static void face() {
        String i = "IndexOutOfBoundsException", a = "IllegalArgumentException", s = "IllegalStateException";
        TreeSet<String> due = new TreeSet<>(Arrays.asList(
                "int store(int, int, int, int, int, int) " + a + " " + s,
                "int wells(int, int, int) " + i + " " + a,
                "int leak(int, int) " + i + " " + a,
                "int leach(int, int) " + i + " " + a + " " + s,
                "int heat(int) " + a,
                "int customer(int, int, int, int) " + a + " " + s,
                "int nominate(int, int, int) " + i + " " + a,
                "int transfer(int, int, int) " + i + " " + a + " " + s,
                "int law(int, int, int) " + a + " " + s,
                "int price(int, int) " + a,
                "int pass(int) " + a + " " + s,
                "int pressure(int) " + i,
                "int rate(int, boolean) " + i,
                "int mix(int) " + i,
                "long ofStore(int, int) " + i + " " + a,
                "long ofCustomer(int, int) " + i + " " + a,
                "int flow(int) " + i,
                "int why(int) " + i,
                "long worth(int, int) " + i + " " + a,
                "long worthAnew(int, int) " + i + " " + a,
                "long of(int) " + a));
        TreeSet<String> got = new TreeSet<>();
        for (var m : Gasvault.class.getDeclaredMethods()) {
            if (Modifier.isPrivate(m.getModifiers())) {
                continue;
            }
            Check.same(m.getName() + " is public alone", m.getModifiers(), Modifier.PUBLIC);
            StringBuilder line = new StringBuilder(m.getReturnType() + " " + m.getName() + "(");
            line.append(String.join(", ", Arrays.stream(m.getParameterTypes()).map(Class::getName).toList()))
                    .append(")");
            for (Class<?> thrown : m.getExceptionTypes()) {
                line.append(" ").append(thrown.getSimpleName());
            }
            got.add(line.toString());
        }
        Check.same("the methods of the face", got.toString(), due.toString());
        TreeSet<String> fields = new TreeSet<>();
        for (var f : Gasvault.class.getDeclaredFields()) {
            if (!Modifier.isPrivate(f.getModifiers())) {
                fields.add(Modifier.toString(f.getModifiers()) + " " + f.getType() + " " + f.getName());
            }
        }
        Check.same("the constants of the face", fields.toString(), "[public static final int CAVERN, "
                + "public static final int FIELD, public static final int LAYER, public static final int NONE]");
        Check.same("the class", Gasvault.class.getModifiers(), Modifier.PUBLIC | Modifier.FINAL);
        Check.same("constructors", Gasvault.class.getConstructors().length, 1);
        Check.same("arguments of it", Gasvault.class.getConstructors()[0].getParameterCount(), 0);
    }
}
