import java.io.IOException;
import java.lang.reflect.Field;
import java.lang.reflect.Method;
import java.lang.reflect.Modifier;
import java.nio.file.Files;
import java.nio.file.Path;
import java.util.Arrays;
import java.util.HashSet;
import java.util.Set;
import java.util.TreeSet;
import java.util.regex.Matcher;
import java.util.regex.Pattern;

/** The public face as the document has it, and what a look at the class tells of the language's rules. */
public final class FaceTest {
    private static final String SOURCE = "src/main/java/SumsToOne.java";
    private static final Set<String> METHODS = Set.of(
        "int prime(int)", "int drop(int)", "int primeOf(int)", "int box(int,int)", "int boxOf(int)", "int put(int,int,int)", "int sign(int,int)",
        "int powerOf(int,int)", "long value(int,int)", "int height(int)", "int isIn(int)", "int times(int,int,int)", "int over(int,int,int)",
        "int partner(int,int)", "int form(int,int,int)", "int forms(int)", "int answers()", "long answer(int,int)", "int take(int,int)",
        "int which(int)", "int groups()", "int groupOf(int)", "int group(int,int)", "int lots(int,int)", "int sieve(int)", "int sieveOf(int)",
        "int forget(int)", "int order(int,int)", "int reach(int)", "int passes(int,int)", "int left()", "int feed(int)", "int wipe()",
        "int read(int)", "int spelled(int,int)", "int list(int,int)", "int lay(int,int,long)", "long get(int,int)", "int film(int,int)",
        "int judge(int,int)", "int image()", "int undo()", "int count(int)");
    private static final Set<String> NAMES = namesOf(METHODS);
    private static final String[] BANNED_WORDS = {"throw", "throws", "try", "catch", "finally", "synchronized", "assert", "protected", "native", "volatile",
        "Random", "Thread", "Exception", "Error", "Object", "currentTimeMillis", "nanoTime"};

    private static final Checks C = new Checks("face");

    public static void main(String[] args) throws IOException {
        constants();
        members();
        classesInside();
        String code = withoutComments(Files.readString(Path.of(SOURCE)));
        words(code);
        libraryNames(code);
        methodLengths(code);
        C.end();
    }

    private static Set<String> namesOf(Set<String> methods) {
        Set<String> names = new HashSet<>();
        for (String method : methods) {
            names.add(method.substring(method.indexOf(' ') + 1, method.indexOf('(')));
        }
        return names;
    }

    private static void constants() {
        C.due("NONE", SumsToOne.NONE, -1);
        C.due("BAD", SumsToOne.BAD, -2);
        C.due("STATE", SumsToOne.STATE, -3);
        C.due("FULL", SumsToOne.FULL, -4);
        C.due("NOT", SumsToOne.NOT, -5);
        C.due("OVER", SumsToOne.OVER, -6);
        C.due("MISSING", SumsToOne.MISSING, -11);
        C.due("PLACE", SumsToOne.PLACE, -13);
        C.due("BELOW", SumsToOne.BELOW, -14);
        C.due("VOID", SumsToOne.VOID, Long.MIN_VALUE);
        int open = 0;
        for (Field f : SumsToOne.class.getDeclaredFields()) {
            open += Modifier.isPrivate(f.getModifiers()) ? 0 : 1;
            C.holds("a static field is final: " + f, !Modifier.isStatic(f.getModifiers()) || Modifier.isFinal(f.getModifiers()));
        }
        C.due("public fields", open, 10);
    }

    private static void members() {
        C.holds("public final", Modifier.isPublic(SumsToOne.class.getModifiers()) && Modifier.isFinal(SumsToOne.class.getModifiers()));
        C.due("constructors", SumsToOne.class.getDeclaredConstructors().length, 1);
        C.due("public constructors", SumsToOne.class.getConstructors().length, 1);
        Set<String> found = new TreeSet<>();
        for (Method m : SumsToOne.class.getDeclaredMethods()) {
            if (!Modifier.isPrivate(m.getModifiers())) {
                String types = Arrays.toString(m.getParameterTypes()).replaceAll("[\\[\\] ]", "");
                found.add(m.getReturnType() + " " + m.getName() + "(" + types + ")");
                C.holds("public: " + m, Modifier.isPublic(m.getModifiers()) && !Modifier.isStatic(m.getModifiers()));
            }
        }
        C.holds("the methods of the document, and no other ones: " + found, found.equals(METHODS));
        for (Method m : SumsToOne.class.getDeclaredMethods()) {
            C.holds("no private name is a public one: " + m, !Modifier.isPrivate(m.getModifiers()) || !NAMES.contains(m.getName()));
        }
    }

    private static void classesInside() {
        Class<?>[] inside = SumsToOne.class.getDeclaredClasses();
        C.holds("some twelve classes", inside.length <= 12);
        for (Class<?> c : inside) {
            C.holds("static and not public: " + c, Modifier.isStatic(c.getModifiers()) && !Modifier.isPublic(c.getModifiers()));
            C.holds("some twenty fields: " + c, c.getDeclaredFields().length <= 20);
            for (Method m : c.getDeclaredMethods()) {
                C.holds("seven parameters: " + m, m.getParameterCount() <= 7);
                C.holds("no name of the face inside: " + m, !NAMES.contains(m.getName()));
                C.holds("no equals, hashCode, toString inside: " + m, !m.getName().matches("equals|hashCode|toString"));
            }
        }
    }

    private static String withoutComments(String source) {
        return source.replaceAll("(?s)/\\*.*?\\*/", "").replaceAll("//[^\n]*", "");
    }

    private static void words(String code) {
        for (String word : BANNED_WORDS) {
            C.holds("no word " + word, !Pattern.compile("\\b" + word + "\\b").matcher(code).find());
        }
        for (String sign : new String[] {"->", "::", "Exact("}) {
            C.holds("no " + sign, !code.contains(sign));
        }
        C.holds("no package", !Pattern.compile("(?m)^package").matcher(code).find());
        C.due("one import", Pattern.compile("(?m)^import").matcher(code).results().count(), 1);
    }

    private static void libraryNames(String code) {
        Set<String> allowed = Set.of("System.arraycopy", "Arrays.fill", "Math.min", "Math.max", "Math.abs", "Math.floorMod", "Long.MIN_VALUE");
        Matcher m = Pattern.compile("\\b(System|Arrays|Math|Integer|Long)\\.\\w+").matcher(code);
        while (m.find()) {
            C.holds("the library's " + m.group(), allowed.contains(m.group()) || m.group().equals("Arrays;"));
        }
    }

    private static void methodLengths(String code) {
        int depth = 0;
        int start = -1;
        int startDepth = 0;
        String[] lines = code.split("\n");
        for (int n = 0; n < lines.length; n++) {
            if (start < 0 && lines[n].endsWith(") {")) {
                start = n;
                startDepth = depth;
            }
            depth += lines[n].replace("}", "").length() - lines[n].replace("{", "").length();
            if (start >= 0 && depth == startDepth) {
                C.holds("some sixty lines: " + lines[start].strip(), n - start < 60);
                start = -1;
            }
        }
        C.due("all is closed", depth, 0);
    }
}
