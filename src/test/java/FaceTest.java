import java.lang.reflect.Constructor;
import java.lang.reflect.Field;
import java.lang.reflect.Method;
import java.lang.reflect.Modifier;
import java.nio.file.Files;
import java.nio.file.Path;
import java.util.Arrays;
import java.util.Random;
import java.util.TreeSet;
import java.util.regex.Matcher;
import java.util.regex.Pattern;

/** The class has the document's face and no more, and its file keeps to what LANGUAGE.md leaves. */
public final class FaceTest {
    private static final Check CHECK = new Check("FaceTest");
    private static final String[] METHODS = {
        "type(1)", "clear(0)", "field(0)", "station(2)", "reading(2)", "hears(2)", "strikes(1)", "sets(2)",
        "undo(0)", "group(2)", "place(2)", "verdict(1)", "due(5)", "odds(3)", "keep(1)", "back(1)", "count(1)"
    };
    private static final String[] OUTSIDE = {
        "import", "package", "throw", "throws", "try", "catch", "synchronized", "assert", "protected",
        "Object", "Exact", "toString", "hashCode", "->", "::", "@"
    };

    public static void main(String[] args) throws Exception {
        face();
        members();
        source();
        neverThrows();
        CHECK.close();
    }

    private static void due(String call, long got, long want) {
        CHECK.due(call, got, want);
    }

    private static void face() {
        due("BAD", StrokeSeek.BAD, -1);
        due("STATE", StrokeSeek.STATE, -2);
        due("FULL", StrokeSeek.FULL, -3);
        due("NONE", StrokeSeek.NONE, -9);
        due("NO", StrokeSeek.NO, -1000000000);
        int modifiers = StrokeSeek.class.getModifiers();
        due("public and final", Modifier.isPublic(modifiers) && Modifier.isFinal(modifiers) ? 1 : 0, 1);
        TreeSet<String> found = new TreeSet<>();
        for (Method method : StrokeSeek.class.getDeclaredMethods()) {
            if (Modifier.isPublic(method.getModifiers())) {
                found.add(method.getName() + "(" + method.getParameterCount() + ")");
                due("int " + method, method.getReturnType() == int.class ? 1 : 0, 1);
                boolean ints = Arrays.stream(method.getParameterTypes()).allMatch(type -> type == int.class);
                due("of ints alone " + method, ints ? 1 : 0, 1);
            }
        }
        due("the face's methods " + found, found.equals(new TreeSet<>(Arrays.asList(METHODS))) ? 1 : 0, 1);
    }

    private static void members() {
        int constants = 0;
        for (Field field : StrokeSeek.class.getDeclaredFields()) {
            boolean isPublic = Modifier.isPublic(field.getModifiers());
            constants += isPublic ? 1 : 0;
            due("private or public " + field, isPublic || Modifier.isPrivate(field.getModifiers()) ? 1 : 0, 1);
        }
        due("public constants", constants, 5);
        for (Method method : StrokeSeek.class.getDeclaredMethods()) {
            int modifiers = method.getModifiers();
            boolean fine = Modifier.isPublic(modifiers) || Modifier.isPrivate(modifiers) || method.isSynthetic();
            due("private or public " + method, fine ? 1 : 0, 1);
            due("at most seven parameters " + method, method.getParameterCount() <= 7 ? 1 : 0, 1);
        }
        for (Constructor<?> constructor : StrokeSeek.class.getDeclaredConstructors()) {
            due("constructor " + constructor, constructor.getParameterCount(), 0);
            due("public " + constructor, Modifier.isPublic(constructor.getModifiers()) ? 1 : 0, 1);
        }
        fields(StrokeSeek.class);
        Class<?>[] inside = StrokeSeek.class.getDeclaredClasses();
        due("at most twelve classes", inside.length <= 11 ? 1 : 0, 1);
        for (Class<?> one : inside) {
            due("static " + one, Modifier.isStatic(one.getModifiers()) ? 1 : 0, 1);
            fields(one);
            for (Method method : one.getDeclaredMethods()) {
                boolean faceName = Arrays.stream(METHODS).anyMatch(m -> m.startsWith(method.getName() + "("));
                due("no face's name " + method, faceName ? 1 : 0, 0);
            }
        }
    }

    /** Rules 5 and 11: no static state, and some twenty fields beside the constants. */
    private static void fields(Class<?> one) {
        int own = 0;
        for (Field field : one.getDeclaredFields()) {
            boolean isStatic = Modifier.isStatic(field.getModifiers());
            own += isStatic ? 0 : 1;
            due("final " + field, !isStatic || Modifier.isFinal(field.getModifiers()) ? 1 : 0, 1);
        }
        due("at most twenty fields of " + one, own <= 20 ? 1 : 0, 1);
    }

    private static void source() throws Exception {
        Path file = Path.of(System.getProperty("project", "."), "src/main/java/StrokeSeek.java");
        String code = Files.readString(file).replaceAll("(?s)/\\*.*?\\*/", " ").replaceAll("//[^\n]*", " ");
        for (String word : OUTSIDE) {
            boolean letters = Character.isLetter(word.charAt(0));
            Pattern pattern = Pattern.compile(letters ? "\\b" + word + "\\b" : Pattern.quote(word));
            due("'" + word + "' in the code", pattern.matcher(code).find() ? 1 : 0, 0);
        }
        Matcher library = Pattern.compile("\\b(Math|Integer|Long|System|Arrays)\\.(\\w+)").matcher(code);
        while (library.find()) {
            String call = library.group(1) + "." + library.group(2);
            boolean known = Arrays.asList("Math.min", "Math.max", "Math.abs", "Integer.bitCount", "System.arraycopy")
                    .contains(call);
            due("library's " + call, known ? 1 : 0, 1);
        }
        Matcher method = Pattern.compile("(?ms)^( {4}| {8})\\w[\\w\\[\\] ]+\\([^)]*\\) \\{$.*?^\\1\\}$").matcher(code);
        int methods = 0;
        while (method.find()) {
            methods++;
            due("at most sixty lines\n" + method.group(), method.group().lines().count() <= 60 ? 1 : 0, 1);
        }
        due("the methods were found", methods > 60 ? 1 : 0, 1);
    }

    /** Rule 7, for any arguments in any state: a throw ends the test. What the 513th call answers is free. */
    private static void neverThrows() throws Exception {
        Random random = new Random(7);
        String letters = "s10 10p;h0 5; s3 4l;h1 60;";
        for (int run = 0; run < 40; run++) {
            StrokeSeek seek = new StrokeSeek();
            for (int i = 0; i < 2000; i++) {
                if (random.nextInt(60) == 0) {
                    Check.tell(seek, letters.substring(0, random.nextInt(letters.length() + 1)));
                }
                Method method = faceMethod(random.nextInt(METHODS.length));
                Object[] arguments = new Object[method.getParameterCount()];
                for (int j = 0; j < arguments.length; j++) {
                    arguments[j] = anyNumber(random);
                }
                method.invoke(seek, arguments);
            }
        }
    }

    private static Method faceMethod(int i) throws Exception {
        String name = METHODS[i].substring(0, METHODS[i].indexOf('('));
        for (Method method : StrokeSeek.class.getMethods()) {
            if (method.getName().equals(name)) {
                return method;
            }
        }
        throw new IllegalStateException("no method " + name);
    }

    private static int anyNumber(Random random) {
        switch (random.nextInt(8)) {
            case 0:
                return random.nextInt();
            case 1:
                return 1 << random.nextInt(32);
            case 2:
                return random.nextBoolean() ? Integer.MIN_VALUE : Integer.MAX_VALUE;
            case 3:
                return random.nextInt(70) - 2;
            default:
                return random.nextInt(8);
        }
    }
}
