import java.lang.reflect.Field;
import java.lang.reflect.Method;
import java.lang.reflect.Modifier;
import java.nio.file.Files;
import java.nio.file.Path;
import java.util.Arrays;
import java.util.Map;
import java.util.Set;
import java.util.TreeMap;
import java.util.TreeSet;
import java.util.regex.Pattern;

/** The class shows what the document's face shows and nothing else, and keeps to the plainest rules of LANGUAGE.md. */
public final class FaceTests {
    private static final String[] METHODS = {
        "int set(int, int)", "int target(int, int)", "int slug(int, int, int)", "int drop(int)", "int turn(int)",
        "int need(int, int)", "int trim(int, int)", "int restoreTail(int)", "int move(int, int)", "int swap(int, int)",
        "int split(int, int)", "int fit(int)", "int of(int, int)", "int at(int)", "int atBeat(int)", "int ofAct(int, int)",
        "int count(int)", "int places(int)", "int bestSwap(int)", "int ifFitted(int)", "int ifTurned(int)", "int needs(int)",
        "int put(long)", "int wipe()", "int fault()", "int carryOut()", "int undo()", "int save(int)", "int restore(int)"};
    private static final String[] BANNED = {
        "throw", "throws", "try", "catch", "finally", "synchronized", "assert", "package", "native", "volatile"};
    private static final int MOST_CLASSES = 12, MOST_FIELDS = 20, MOST_PARAMETERS = 7;
    private static int wrong = 0;

    private static void due(String what, Object got, Object want) {
        if (!got.equals(want)) {
            wrong++;
            System.out.println(what + ": " + got + ", due is " + want);
        }
    }

    private static void methods() {
        Set<String> found = new TreeSet<>();
        Set<String> names = new TreeSet<>();
        for (Method method : BeatSlugs.class.getDeclaredMethods()) {
            if (!Modifier.isPrivate(method.getModifiers())) {
                String inputs = Arrays.toString(method.getParameterTypes()).replace('[', '(').replace(']', ')');
                found.add(method.getReturnType() + " " + method.getName() + inputs);
                names.add(method.getName());
                due(method.getName() + " is public alone", method.getModifiers(), Modifier.PUBLIC);
            }
        }
        due("the methods", found, new TreeSet<>(Arrays.asList(METHODS)));
        for (Method method : BeatSlugs.class.getDeclaredMethods()) {
            if (Modifier.isPrivate(method.getModifiers())) {
                due("a private method named " + method.getName(), names.contains(method.getName()), false);
            }
        }
    }

    private static void constants() throws IllegalAccessException {
        Map<String, Integer> want = new TreeMap<>(Map.of("NO_SUCH", -1, "BAD_VALUE", -2, "BAD_TEXT", -3, "TOO_MANY", -4,
            "NOT_POSSIBLE", -5, "NONE", -6, "PAGE", 0, "SLACK", 1, "TRIM", 2));
        Map<String, Integer> found = new TreeMap<>();
        for (Field field : BeatSlugs.class.getDeclaredFields()) {
            if (!Modifier.isPrivate(field.getModifiers())) {
                due(field.getName() + " is a constant", field.getModifiers(), Modifier.PUBLIC | Modifier.STATIC | Modifier.FINAL);
                found.put(field.getName(), field.getInt(null));
            }
        }
        due("the constants", found, want);
    }

    private static void classes() {
        due("the class", BeatSlugs.class.getModifiers(), Modifier.PUBLIC | Modifier.FINAL);
        due("the constructors", BeatSlugs.class.getConstructors().length, 1);
        due("few classes", BeatSlugs.class.getDeclaredClasses().length < MOST_CLASSES, true);
        parts(BeatSlugs.class);
        for (Class<?> inside : BeatSlugs.class.getDeclaredClasses()) {
            due(inside + " is static", Modifier.isStatic(inside.getModifiers()), true);
            due(inside + " is hidden", Modifier.isPublic(inside.getModifiers()) || Modifier.isProtected(inside.getModifiers()), false);
            parts(inside);
        }
    }

    private static void parts(Class<?> part) {
        int fields = 0;
        for (Field field : part.getDeclaredFields()) {
            boolean shared = Modifier.isStatic(field.getModifiers());
            due(field + " is no static state", shared && !Modifier.isFinal(field.getModifiers()), false);
            fields += shared ? 0 : 1;
        }
        due(part + " has few fields", fields <= MOST_FIELDS, true);
        for (Method method : part.getDeclaredMethods()) {
            due(method + " is no lambda", method.getName().startsWith("lambda$"), false);
            due(method + " takes few parameters", method.getParameterCount() <= MOST_PARAMETERS, true);
        }
    }

    private static void words(String file) throws java.io.IOException {
        String source = Files.readString(Path.of(file)).replaceAll("(?s)/\\*.*?\\*/", "").replaceAll("//[^\n]*", "");
        for (String word : BANNED) {
            due("the word " + word, Pattern.compile("\\b" + word + "\\b").matcher(source).find(), false);
        }
        due("method references", source.contains("::"), false);
        due("other imports", source.replaceAll("import java\\.util\\.(ArrayList|List|Iterator|Arrays);", "").contains("import "), false);
        due("the file is plain", source.chars().allMatch(sign -> sign < 127), true);
    }

    public static void main(String[] args) throws Exception {
        methods();
        constants();
        classes();
        words(args.length > 0 ? args[0] : "src/main/java/BeatSlugs.java");
        System.out.println(wrong == 0 ? "face: all is as due" : "face: " + wrong + " things are not as due");
        if (wrong != 0) {
            System.exit(1);
        }
    }
}
