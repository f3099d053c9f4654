import java.io.IOException;
import java.lang.reflect.Field;
import java.lang.reflect.Method;
import java.lang.reflect.Modifier;
import java.nio.file.Files;
import java.nio.file.Path;
import java.util.Arrays;
import java.util.Map;
import java.util.Set;
import java.util.TreeMap;
import java.util.TreeSet;
import java.util.regex.Matcher;
import java.util.regex.Pattern;

/** README.md against the class and the document, so that the page can't grow old unseen. */
public final class ReadmeTest {
    private static final Pattern CALL_ROW = Pattern.compile("(?m)^\\| `(\\w+)\\((.*?)\\)` \\|.*\\|([A-Z ]*)\\|$");
    private static final Pattern CONSTANT_ROW = Pattern.compile("(?m)^\\| `([A-Z]+)` \\| (-?\\d+) \\|");
    private static final Pattern EXAMPLE = Pattern.compile("(?s)```java\n(.*?)```");
    private static final Pattern EXAMPLE_CALL = Pattern.compile("x\\.(\\w+)\\(([-0-9, ]*)\\);\\s*// (-?\\d+): (\\w*).*");
    private static final Pattern REFUSAL = Pattern.compile("\\b(BAD|NO|FULL|NONE)\\b");

    private ReadmeTest() {
    }

    public static void main(String[] args) throws IOException, ReflectiveOperationException {
        String page = Files.readString(Path.of("README.md"));
        theCalls(page);
        theConstants(page);
        theExample(page);
        theTests(page);
        Due.end();
    }

    private static void theCalls(String page) {
        Map<String, Set<String>> told = new TreeMap<>();
        Matcher row = CALL_ROW.matcher(page);
        while (row.find()) {
            told.put(row.group(1) + "(" + row.group(2) + ")", refusals(row.group(3)));
        }
        Due.is("calls that README.md tells", told.size(), 26);
        for (Method m : LittleSums.class.getDeclaredMethods()) {
            if (Modifier.isPublic(m.getModifiers())) {
                long like = told.keySet().stream().filter(call -> isCallOf(call, m)).count();
                Due.is("README.md tells " + m.getName() + " so often", like, 1);
            }
        }
        told.forEach(ReadmeTest::refusalsAreAsPromised);
    }

    private static boolean isCallOf(String call, Method m) {
        String inside = call.substring(call.indexOf('(') + 1, call.length() - 1);
        int many = inside.isEmpty() ? 0 : inside.split(",").length;
        return call.startsWith(m.getName() + "(") && many == m.getParameterCount();
    }

    private static void refusalsAreAsPromised(String call, Set<String> told) {
        String document = Due.document();
        int start = document.indexOf("`int " + call.replaceAll("(\\(|, )(?=\\w)", "$1int ") + "`:");
        Due.holds("the document promises " + call, document.isEmpty() || start >= 0);
        if (start >= 0) {
            String promise = document.substring(start, document.indexOf(" ## ", start));
            Due.holds("README.md tells " + told + " of " + call, told.equals(refusals(promise)));
        }
    }

    private static Set<String> refusals(String words) {
        Set<String> all = new TreeSet<>();
        Matcher one = REFUSAL.matcher(words);
        while (one.find()) {
            all.add(one.group());
        }
        return all;
    }

    private static void theConstants(String page) throws ReflectiveOperationException {
        Map<String, Integer> told = new TreeMap<>();
        Matcher row = CONSTANT_ROW.matcher(page);
        while (row.find()) {
            told.put(row.group(1), Integer.parseInt(row.group(2)));
        }
        Due.is("refusals that README.md tells", told.size(), 4);
        for (Map.Entry<String, Integer> one : told.entrySet()) {
            Field constant = LittleSums.class.getField(one.getKey());
            Due.is(one.getKey() + " as README.md tells it", one.getValue(), constant.getInt(null));
        }
        Due.holds("README.md tells ZERO", page.contains("`ZERO` (" + LittleSums.ZERO + ")"));
    }

    /** Every row that has a call must be one that is understood here, so that none goes unlooked at. */
    private static void theExample(String page) throws ReflectiveOperationException {
        Matcher example = EXAMPLE.matcher(page);
        Due.holds("README.md has an example", example.find());
        LittleSums x = new LittleSums();
        String text = "";
        int calls = 0;
        for (String row : example.group(1).split("\n")) {
            Matcher call = EXAMPLE_CALL.matcher(row);
            if (row.startsWith("String text = ")) {
                text = row.split("\"")[1];
            } else if (row.contains("x.write(text.charAt(i))")) {
                Given.write(x, text);
            } else if (call.matches()) {
                calls++;
                answersAsTold(x, call);
            } else {
                Due.holds("a row of the example is understood: " + row, row.isEmpty() || row.startsWith("LittleSums x ="));
            }
        }
        Due.holds("the example has calls", calls > 5);
    }

    private static void answersAsTold(LittleSums x, Matcher row) throws ReflectiveOperationException {
        Object[] arguments = row.group(2).isEmpty() ? new Object[0]
            : Arrays.stream(row.group(2).split(", ")).map(Integer::valueOf).toArray();
        Class<?>[] kinds = new Class<?>[arguments.length];
        Arrays.fill(kinds, int.class);
        int got = (Integer) LittleSums.class.getMethod(row.group(1), kinds).invoke(x, arguments);
        Due.is("the example: " + row.group(), got, Integer.parseInt(row.group(3)));
        if (got < 0) {
            Due.is("the example's name for " + got, LittleSums.class.getField(row.group(4)).getInt(null), got);
        }
    }

    private static void theTests(String page) throws IOException {
        try (var files = Files.list(Path.of("src/test/java"))) {
            files.map(file -> file.getFileName().toString().replace(".java", ""))
                .forEach(name -> Due.holds("README.md tells of " + name, page.contains("`" + name + "`")));
        }
    }
}
