import java.io.IOException;
import java.lang.reflect.Method;
import java.nio.file.Files;
import java.nio.file.Path;
import java.util.ArrayList;
import java.util.List;
import java.util.TreeSet;
import java.util.regex.Matcher;
import java.util.regex.Pattern;

/** The tour in README.md: every call answers what the remark beside it begins with, and no call of the face is left out. */
public final class ReadmeTests {
    private static final Pattern CALL = Pattern.compile("bay\\.(\\w+)\\(([^)]*)\\);\\s*// (-?\\d+)\\b.*");

    private static int wrong = 0;

    public static void main(String[] args) throws IOException, ReflectiveOperationException {
        String readme = Files.readString(Path.of("README.md"));
        int from = readme.indexOf("```java\n") + "```java\n".length();
        String tour = readme.substring(from, readme.indexOf("```", from));
        BayMoorings bay = new BayMoorings();
        TreeSet<String> left = namesOfTheFace();
        for (String line : tour.split("\n")) {
            Matcher call = CALL.matcher(line);
            if (call.matches()) {
                left.remove(call.group(1));
                int got = answer(bay, call.group(1), numbers(call.group(2)));
                complain(got != Integer.parseInt(call.group(3)), line + " answered " + got);
            } else {
                complain(line.contains("bay."), line + " doesn't say what it answers");
            }
        }
        complain(!left.isEmpty(), "the tour leaves out " + left);
        System.out.println(wrong == 0 ? "the tour is as README.md says" : wrong + " faults in README.md");
        if (wrong != 0) {
            System.exit(1);
        }
    }

    private static TreeSet<String> namesOfTheFace() {
        TreeSet<String> names = new TreeSet<>();
        for (Method method : BayMoorings.class.getDeclaredMethods()) {
            if (java.lang.reflect.Modifier.isPublic(method.getModifiers())) {
                names.add(method.getName());
            }
        }
        return names;
    }

    private static List<Integer> numbers(String text) {
        List<Integer> numbers = new ArrayList<>();
        for (String number : text.isBlank() ? new String[0] : text.split(",")) {
            numbers.add(Integer.parseInt(number.trim()));
        }
        return numbers;
    }

    private static int answer(BayMoorings bay, String name, List<Integer> numbers) throws ReflectiveOperationException {
        Class<?>[] types = new Class<?>[numbers.size()];
        java.util.Arrays.fill(types, int.class);
        return (int) BayMoorings.class.getMethod(name, types).invoke(bay, numbers.toArray());
    }

    private static void complain(boolean fault, String what) {
        if (fault) {
            wrong++;
            System.out.println(what);
        }
    }
}
