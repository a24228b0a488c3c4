import java.io.IOException;
import java.lang.reflect.InvocationTargetException;
import java.lang.reflect.Method;
import java.nio.file.Files;
import java.nio.file.Path;
import java.util.List;
import java.util.NoSuchElementException;
import java.util.TreeSet;
import java.util.regex.Matcher;
import java.util.regex.Pattern;
import java.util.stream.Stream;

/** README.md: the calls that it shows answer what it says, and it names each call of the face and each test. */
public final class ReadmeTest {
    private static final String THROWN = "throws NoSuchElementException";
    private static final Pattern BLOCK = Pattern.compile("```(java|text)\n(.*?)```", Pattern.DOTALL);
    private static final Pattern ROW = Pattern.compile(
        "(?:desk\\.(\\w+)\\(([^)\"]*)\\)|tell\\(desk, (text|\"[^\"]*\")\\));\\s+// (" + THROWN
        + "|NONE|true|false|-?\\d+)(?::.*)?");

    private final String page;
    private final TreeSet<String> called = new TreeSet<>();
    private final TreeSet<String> thrown = new TreeSet<>();
    private PriceDesk desk = new PriceDesk();
    private String text = "";
    private int rows = 0;

    private ReadmeTest(String page) {
        this.page = page;
    }

    public static void main(String[] args) throws Exception {
        ReadmeTest test = new ReadmeTest(Files.readString(Path.of("README.md")));
        test.blocks();
        test.wholeFace();
        test.allTests();
        Checks.finish("ReadmeTest");
    }

    private void blocks() throws Exception {
        String shared = plain(Files.readString(Path.of("src/test/java/Checks.java")));
        Matcher block = BLOCK.matcher(page);
        while (block.find()) {
            String inside = block.group(2);
            if (block.group(1).equals("text")) {
                text = inside;
            } else if (inside.startsWith("static ")) {
                Checks.due("the tests tell a text as README.md does", shared.contains(plain(inside)), true);
            } else {
                for (String line : inside.split("\n")) {
                    row(line);
                }
            }
        }
        // A pattern that finds nothing would pass as well.
        Checks.due("rows that are compared", rows >= 100, true);
    }

    private static String plain(String code) {
        return code.replaceAll("\\s+", " ").trim();
    }

    private void row(String line) throws IllegalAccessException {
        if (line.equals("PriceDesk desk = new PriceDesk();")) {
            desk = new PriceDesk();
            return;
        }
        Matcher row = ROW.matcher(line);
        boolean isRow = row.matches();
        Checks.due("README.md has a call and its answer in: " + line, isRow, true);
        if (isRow) {
            String want = row.group(4).equals("NONE") ? "" + PriceDesk.NONE : row.group(4);
            String got = row.group(1) == null ? told(row.group(3)) : answer(row.group(1), row.group(2));
            rows++;
            Checks.due("README.md: " + line + " .. but the desk: " + got, got.equals(want), true);
        }
    }

    private String told(String what) {
        return "" + Checks.tell(desk, what.equals("text") ? text : what.substring(1, what.length() - 1));
    }

    private String answer(String name, String arguments) throws IllegalAccessException {
        Method method = Stream.of(PriceDesk.class.getMethods()).filter(each -> each.getName().equals(name))
            .findFirst().orElse(null);
        String[] words = arguments.isEmpty() ? new String[0] : arguments.split(", ");
        if (method == null || method.getParameterCount() != words.length) {
            return "has no such call";
        }
        called.add(name);
        Object[] values = new Object[words.length];
        for (int k = 0; k < words.length; k++) {
            boolean isFlag = method.getParameterTypes()[k] == boolean.class;
            values[k] = isFlag ? (Object) Boolean.valueOf(words[k]) : Integer.decode(words[k]);
        }
        try {
            return "" + method.invoke(desk, values);
        } catch (InvocationTargetException e) {
            thrown.add(name);
            return e.getCause() instanceof NoSuchElementException ? THROWN : "throws " + e.getCause();
        }
    }

    private void wholeFace() {
        for (Method method : PriceDesk.class.getDeclaredMethods()) {
            String name = method.getName();
            if ((method.getModifiers() & java.lang.reflect.Modifier.PUBLIC) != 0) {
                Checks.due("README.md shows a " + name + "()", called.contains(name), true);
                Checks.due("README.md shows a " + name + "() that throws", thrown.contains(name),
                    method.getExceptionTypes().length > 0);
            }
        }
    }

    private void allTests() throws IOException {
        try (Stream<Path> files = Files.list(Path.of("src/test/java"))) {
            List<String> tests = files.map(file -> file.getFileName().toString()).filter(file -> file.endsWith("Test.java"))
                .map(file -> file.substring(0, file.length() - ".java".length())).toList();
            for (String test : tests) {
                boolean isInTable = Pattern.compile("(?m)^\\|[^|]*\\b" + test + "\\b").matcher(page).find();
                Checks.due("README.md has " + test + " in its table", isInTable, true);
            }
        }
    }
}
