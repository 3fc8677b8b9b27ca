import java.io.IOException;
import java.lang.reflect.Method;
import java.lang.reflect.Modifier;
import java.nio.file.Files;
import java.nio.file.Path;
import java.util.List;
import java.util.regex.Matcher;
import java.util.regex.Pattern;
import java.util.stream.Stream;

/** That README.md says how the class is used and tested as both stand: its example, the calls and the tests it names. */
public final class ReadmeTest {
    private static final Path TESTS = Path.of("src/test/java");

    private static String example;

    public static void main(String[] args) throws IOException {
        String page = Files.readString(Path.of("README.md"));
        example = between(page, "```java\n", "```");
        String own = between(Files.readString(TESTS.resolve("ReadmeTest.java")), "// as in README.md\n", "// end\n");
        Check.same("the example of README.md, and the one that is run here", bare(example), bare(own));
        exampleAnswersAsItSays();
        eachCallIsNamed(page);
        eachTestIsNamed(page);
        Check.end();
    }

    private static void exampleAnswersAsItSays() {
        // as in README.md
        Gasvault vault = new Gasvault();
        int field = vault.store(Gasvault.FIELD, 1000, 2000, 100, 800, 300);
        int rateOut = vault.wells(field, 4, 50);
        int customer = vault.customer(900, 300, 200, 1);
        int before = vault.nominate(customer, 2, 250);
        int hour = vault.pass(2);
        int brings = vault.flow(customer);
        vault.pass(1);
        long inventory = vault.ofCustomer(customer, 0);
        long gas = vault.ofStore(field, 0);

        vault.law(5, 9, 200);
        vault.nominate(customer, 5, -100);
        vault.pass(2);
        int takes = vault.flow(customer);
        int step = vault.why(customer);

        vault.price(5, 20);
        vault.price(6, 50);
        long worth = vault.worth(customer, 2);
        // end
        said("field", field);
        said("rateOut", rateOut);
        said("customer", customer);
        said("before", before);
        said("hour", hour);
        said("brings", brings);
        said("inventory", inventory);
        said("gas", gas);
        said("takes", takes);
        said("step", step);
        said("worth", worth);
    }

    /** The number behind the line of the example that makes this variable is what the variable holds. */
    private static void said(String variable, long got) {
        Matcher m = Pattern.compile("(?:int|long) " + variable + " = [^/\n]*// (-?\\d+)").matcher(example);
        Check.same(variable + " has a number behind it", m.find() ? 1 : 0, 1);
        Check.same(variable, got, Long.parseLong(m.group(1)));
    }

    private static void eachCallIsNamed(String page) {
        for (Method m : Gasvault.class.getDeclaredMethods()) {
            if (Modifier.isPublic(m.getModifiers())) {
                isNamed(page, m.getName());
            }
        }
    }

    private static void eachTestIsNamed(String page) throws IOException {
        try (Stream<Path> files = Files.list(TESTS)) {
            List<String> names = files.map(file -> file.getFileName().toString().replace(".java", "")).sorted().toList();
            for (String name : names) {
                isNamed(page, name);
            }
            Matcher m = Pattern.compile("`(\\w+Test)`").matcher(page);
            while (m.find()) {
                Check.same(m.group(1) + " is there", names.contains(m.group(1)) ? 1 : 0, 1);
            }
        }
    }

    private static void isNamed(String page, String name) {
        Check.same("README.md names " + name, page.contains("`" + name + "`") ? 1 : 0, 1);
    }

    private static String between(String text, String from, String to) {
        int start = text.indexOf(from) + from.length();
        return text.substring(start, text.indexOf(to, start));
    }

    /** Without comments and the spaces that set it out. */
    private static String bare(String code) {
        return code.replaceAll("//[^\n]*", "").replaceAll("(?m)^ +| +$", "").trim();
    }
}
