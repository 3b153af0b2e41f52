import java.io.IOException;
import java.lang.reflect.Method;
import java.lang.reflect.Modifier;
import java.nio.file.DirectoryStream;
import java.nio.file.Files;
import java.nio.file.Path;
import java.util.ArrayList;
import java.util.List;

/** README.md's example answers what it tells; every call and test is named there. Runs in the project's folder. */
public final class ReadmeTest {
    private static final Checks checks = new Checks();

    public static void main(String[] args) throws IOException {
        List<String> lines = Files.readAllLines(Path.of("README.md"));
        example(lines);
        namesEveryCall(lines);
        namesEveryTest(String.join("\n", lines));
        checks.end();
    }

    /** The example's calls, as they stand on the page, with what this class answers them. */
    private static List<String> answeredCalls() {
        List<String> answered = new ArrayList<>();
        Replen planner = new Replen();
        int shop = planner.addShop(2);
        answered.add("int shop = planner.addShop(2); " + shop);
        int item = planner.addItem(4, 60);
        answered.add("int item = planner.addItem(4, 60); " + item);
        answered.add("planner.carry(shop, item, 10, 5000); " + planner.carry(shop, item, 10, 5000));
        answered.add("planner.demand(shop, item, 12); " + planner.demand(shop, item, 12));
        answered.add("planner.night(); " + planner.night());
        answered.add("planner.today(); " + planner.today());
        answered.add("planner.level(shop, item); " + planner.level(shop, item));
        answered.add("planner.season(shop, item, 0); " + planner.season(shop, item, 0));
        answered.add("planner.forecast(shop, item, 7); " + planner.forecast(shop, item, 7));
        answered.add("planner.safety(shop, item); " + planner.safety(shop, item));
        answered.add("planner.onWay(shop, item); " + planner.onWay(shop, item));
        answered.add("planner.nextArrival(shop, item); " + planner.nextArrival(shop, item));
        answered.add("planner.centre(item); " + planner.centre(item));
        answered.add("planner.service(shop); " + planner.service(shop));
        return answered;
    }

    private static void example(List<String> lines) {
        List<String> told = new ArrayList<>();
        for (String line : lines) {
            if (line.matches(".*planner\\..*;\\s+// [0-9.]+: .*")) {
                told.add(line.replaceFirst("\\s+// ([0-9.]+): .*", " $1"));
            }
        }
        checks.same("the example", String.join("\n", told), String.join("\n", answeredCalls()));
    }

    private static String call(Method method) {
        return method.getName() + "(" + method.getParameterCount() + ")";
    }

    /** Each call has one row of a table, with as many arguments as it takes, and no other call has one. */
    private static void namesEveryCall(List<String> lines) {
        List<String> rows = new ArrayList<>();
        for (String line : lines) {
            if (line.matches("\\| `\\w+\\(.*\\)` \\|.*\\|.+\\|")) {
                String arguments = line.substring(line.indexOf('(') + 1, line.indexOf(')'));
                int count = arguments.isEmpty() ? 0 : arguments.split(", ").length;
                rows.add(line.substring(3, line.indexOf('(')) + "(" + count + ")");
            }
        }
        int calls = 0;
        for (Method method : Replen.class.getDeclaredMethods()) {
            if (Modifier.isPublic(method.getModifiers())) {
                calls++;
                checks.same("README.md names " + call(method), rows.contains(call(method)), true);
            }
        }
        checks.same("README.md's rows of calls", rows.size(), calls);
    }

    private static void namesEveryTest(String text) throws IOException {
        try (DirectoryStream<Path> tests = Files.newDirectoryStream(Path.of("src/test/java"), "*Test.java")) {
            for (Path test : tests) {
                String name = test.getFileName().toString().replace(".java", "");
                checks.same("README.md names " + name, text.contains(name), true);
            }
        }
    }
}
