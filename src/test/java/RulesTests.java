import java.io.IOException;
import java.lang.reflect.Method;
import java.lang.reflect.Modifier;
import java.nio.file.Files;
import java.nio.file.Path;
import java.util.ArrayList;
import java.util.Arrays;
import java.util.List;
import java.util.Random;
import java.util.TreeSet;
import java.util.regex.Matcher;
import java.util.regex.Pattern;

/** The rules of LANGUAGE.md that can be seen from outside: the face, words that are ruled out, no call that throws. */
public final class RulesTests {
    private static final String FACE =
        "about(boat what) answer(buoy is) as(boat kind) away(boat) boat(kind length draught) "
        + "buoy(x y depth chain) check() content(boat) count(what) dues() fits(boat buoy) fled(boat s) found(k) "
        + "leave(boat) look(buoy v more) moor(boat buoy) most(boats what) next() of(buoy what) offer(buoy) "
        + "out(boat buoy hour) rate(v) rather(boat buoy) renew(buoy) ring(boat) stays(is) storm(s) swap() tell(v) "
        + "tide(hour v) touch(boat buoy other at) wait(boat) winds(bits) years(n)";
    private static final String[] RULED_OUT = {
        "throw", "throws", "try", "catch", "synchronized", "assert", "protected", "volatile", "native", "package",
        "Object", "System.out", "Random", "Thread", "->", "::", "Exact", "@",
    };

    private static int wrong = 0;

    public static void main(String[] args) throws IOException {
        faceIsTheDocuments();
        sourceKeepsToTheRules(Files.readString(Path.of("src/main/java/BayMoorings.java")));
        noCallThrows();
        System.out.println(wrong == 0 ? "the rules are kept" : wrong + " rules are broken");
        if (wrong != 0) {
            System.exit(1);
        }
    }

    private static void complain(boolean broken, String what) {
        if (broken) {
            wrong++;
            System.out.println(what);
        }
    }

    private static List<Method> publicMethods() {
        List<Method> face = new ArrayList<>();
        for (Method method : BayMoorings.class.getDeclaredMethods()) {
            if (Modifier.isPublic(method.getModifiers())) {
                face.add(method);
            }
        }
        face.sort((a, b) -> a.getName().compareTo(b.getName()));
        return face;
    }

    private static void faceIsTheDocuments() {
        TreeSet<String> want = new TreeSet<>();
        Matcher due = Pattern.compile("(\\w+)\\(([^)]*)\\)").matcher(FACE);
        while (due.find()) {
            want.add(due.group(1) + "/" + (due.group(2).isEmpty() ? 0 : due.group(2).split(" ").length));
        }
        TreeSet<String> got = new TreeSet<>();
        TreeSet<String> names = new TreeSet<>();
        for (Method method : publicMethods()) {
            got.add(method.getName() + "/" + method.getParameterCount());
            names.add(method.getName());
            complain(method.getReturnType() != int.class, method + " doesn't answer an int");
            for (Class<?> type : method.getParameterTypes()) {
                complain(type != int.class, method + " takes what isn't an int");
            }
        }
        complain(want.size() != 34 || !want.equals(got), "the face is " + got + ", due is " + want);
        complain(!Modifier.isFinal(BayMoorings.class.getModifiers()), "the class isn't final");
        complain(BayMoorings.class.getConstructors().length != 1, "there is not just one constructor");
        Arrays.stream(BayMoorings.class.getDeclaredFields())
            .forEach(f -> complain(!Modifier.isPrivate(f.getModifiers()), f + " isn't private"));
        Arrays.stream(BayMoorings.class.getDeclaredMethods())
            .filter(m -> !Modifier.isPublic(m.getModifiers()))
            .forEach(m -> complain(!Modifier.isPrivate(m.getModifiers()), m + " is neither public nor private"));
        int classes = 1;
        for (Class<?> inside : BayMoorings.class.getDeclaredClasses()) {
            classes++;
            complain(!Modifier.isStatic(inside.getModifiers()), inside + " isn't static");
            complain(inside.getDeclaredFields().length > 20, inside + " has too many fields");
            for (Method m : inside.getDeclaredMethods()) {
                complain(names.contains(m.getName()), m + " bears the name of a public method");
                complain(m.getParameterCount() > 7, m + " has too many parameters");
            }
        }
        complain(classes > 12, "there are " + classes + " classes");
    }

    private static void sourceKeepsToTheRules(String source) {
        String code = source.replaceAll("(?s)/\\*.*?\\*/", "").replaceAll("//[^\n]*", "");
        for (String word : RULED_OUT) {
            boolean isName = Character.isLetter(word.charAt(0));
            Pattern pattern = Pattern.compile(isName ? "\\b" + Pattern.quote(word) + "\\b" : Pattern.quote(word));
            complain(pattern.matcher(code).find(), "the source has " + word);
        }
        Matcher imports = Pattern.compile("import ([^;]+);").matcher(code);
        while (imports.find()) {
            complain(!imports.group(1).equals("java.util.Arrays"), "the source imports " + imports.group(1));
        }
        complain(source.chars().anyMatch(c -> c > 126), "the source has signs beyond 126");
        // Rule 7: a reference is looked at before it is used, and what an array of objects holds may be null.
        complain(Pattern.compile("\\]\\s*\\.").matcher(code).find(), "an element is used without a look at it");
        complain(Pattern.compile("\\.(buoys|boats)\\[").matcher(code).find(), "an element is taken past buoyAt or boatAt");
    }

    /** Every method with arguments of every sort, on objects in many states and long after their 512th call. */
    private static void noCallThrows() {
        List<Method> face = publicMethods();
        Random random = new Random(7);
        int[] odd = {Integer.MIN_VALUE, Integer.MIN_VALUE + 1, -1000001, -2, -1, 31, 32, 33, 255, 1 << 16, Integer.MAX_VALUE};
        for (int run = 0; run < 60; run++) {
            BayMoorings x = new BayMoorings();
            int oddness = 2 + random.nextInt(20);
            for (int i = 0; i < 4000; i++) {
                Method method = face.get(random.nextInt(face.size()));
                Object[] arguments = new Object[method.getParameterCount()];
                int bound = 1 + random.nextInt(random.nextBoolean() ? 12 : 300);
                for (int k = 0; k < arguments.length; k++) {
                    arguments[k] = random.nextInt(oddness) == 0 ? odd[random.nextInt(odd.length)] : random.nextInt(bound);
                }
                try {
                    method.invoke(x, arguments);
                } catch (ReflectiveOperationException e) {
                    complain(true, method.getName() + Arrays.toString(arguments) + " threw " + e.getCause());
                }
            }
        }
    }
}
