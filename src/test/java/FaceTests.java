import java.io.IOException;
import java.lang.reflect.Constructor;
import java.lang.reflect.Field;
import java.lang.reflect.Method;
import java.lang.reflect.Modifier;
import java.nio.file.Files;
import java.nio.file.Path;
import java.util.ArrayList;
import java.util.List;
import java.util.TreeMap;
import java.util.TreeSet;

/** The public face of the document, and what LANGUAGE.md leaves out, as far as a test can see it. */
final class FaceTests {
    private static final Path SOURCE = Path.of("src/main/java/PoleNave.java");
    private static final String[] FACE = {
        "int row(int,int)", "int lay(int,int,int)", "int at(int,int)", "int tear(int)", "int copy(int,int,int,int,int)",
        "int mean(int)", "int text(int,int)", "int put(int,int,int)", "int fault(int)", "int nave(int)",
        "int pole(int,int)", "int one(int,int)", "int mark(int,int)", "int bears(int,int)", "int sit(int,int)",
        "int down(int)", "int lace(int)", "int stone()", "int year()", "int undo(int)", "int keep(int)", "int on(int)",
        "int holds()", "int gives(int)", "int later(int)", "int best(int)", "int fewest()", "int seated(int)",
        "int laces(int,int)", "int strengths(int,int)", "int kinds(int,int)", "int test(int,int)", "int duel(int)",
        "int odds(int,int)", "int mid(int)", "int lots(int,int)", "int asked()", "long upper()", "long lower()",
        "int count(int)", "int finding()", "int findings(int)", "long digest()",
    };

    static void allMethodsOfTheFace() {
        TreeSet<String> due = new TreeSet<>();
        for (String m : FACE) {
            due.add(m);
        }
        TreeSet<String> names = new TreeSet<>();
        TreeSet<String> found = new TreeSet<>();
        for (Method m : PoleNave.class.getDeclaredMethods()) {
            if (Modifier.isPublic(m.getModifiers())) {
                names.add(m.getName());
                found.add(signature(m));
                Check.due("static " + m.getName(), Modifier.isStatic(m.getModifiers()) ? 1 : 0, 0);
            }
        }
        if (!found.equals(due)) {
            Check.fail("public methods are " + found + ", due are " + due);
        }
        for (Method m : PoleNave.class.getDeclaredMethods()) {
            boolean hidden = Modifier.isPrivate(m.getModifiers());
            if (!hidden && !Modifier.isPublic(m.getModifiers()) || hidden && names.contains(m.getName())) {
                Check.fail("method " + m + " against rule 1");
            }
        }
    }

    private static String signature(Method m) {
        StringBuilder s = new StringBuilder(m.getReturnType().getName()).append(' ').append(m.getName()).append('(');
        for (Class<?> type : m.getParameterTypes()) {
            s.append(s.charAt(s.length() - 1) == '(' ? "" : ",").append(type.getName());
        }
        return s.append(')').toString();
    }

    static void allConstantsOfTheFace() throws IllegalAccessException {
        TreeMap<String, Integer> due = new TreeMap<>();
        String[] names = {"BAD", "FULL", "FINDING", "STATE", "SPENT", "NONE"};
        int[] values = {-1, -2, -3, -4, -6, -9};
        for (int j = 0; j < names.length; j++) {
            due.put(names[j], values[j]);
        }
        TreeMap<String, Integer> found = new TreeMap<>();
        for (Field f : PoleNave.class.getDeclaredFields()) {
            int m = f.getModifiers();
            if (Modifier.isPublic(m)) {
                found.put(f.getName(), f.getInt(null));
            } else if (!Modifier.isPrivate(m)) {
                Check.fail("field " + f + " against rule 1");
            }
            if (Modifier.isStatic(m) && !Modifier.isFinal(m)) {
                Check.fail("field " + f + " against rule 5");
            }
        }
        if (!found.equals(due)) {
            Check.fail("public constants are " + found + ", due are " + due);
        }
        Constructor<?>[] made = PoleNave.class.getDeclaredConstructors();
        Check.due("constructors", made.length, 1);
        Check.due("parameters of the constructor", made[0].getParameterCount(), 0);
        Check.due("final class", Modifier.isFinal(PoleNave.class.getModifiers()) ? 1 : 0, 1);
        for (Class<?> c : PoleNave.class.getDeclaredClasses()) {
            Check.due("static class " + c, Modifier.isStatic(c.getModifiers()) ? 1 : 0, 1);
        }
    }

    /** Rules 2, 4, 6, 13 and the file without a package line, as far as words and compiled methods show them. */
    static void allWordsOfTheLanguage() throws IOException {
        String code = Files.readString(SOURCE).replaceAll("(?s)/\\*.*?\\*/", " ").replaceAll("//[^\n]*", " ");
        TreeSet<String> words = new TreeSet<>();
        for (String word : code.split("[^A-Za-z_0-9]+")) {
            words.add(word);
            if (word.endsWith("Exact")) {
                Check.fail("the word '" + word + "' against LANGUAGE.md");
            }
        }
        String[] ruledOut = {
            "throw", "throws", "try", "catch", "finally", "synchronized", "assert", "package", "Thread", "Random", "currentTimeMillis",
            "nanoTime",
        };
        for (String word : ruledOut) {
            if (words.contains(word)) {
                Check.fail("the word '" + word + "' against LANGUAGE.md");
            }
        }
        if (code.contains("::")) {
            Check.fail("a method reference against LANGUAGE.md");
        }
        noLambdas(PoleNave.class);
        for (Class<?> c : PoleNave.class.getDeclaredClasses()) {
            noLambdas(c);
        }
    }

    private static void noLambdas(Class<?> c) {
        for (Method m : c.getDeclaredMethods()) {
            if (m.getName().startsWith("lambda$")) {
                Check.fail("a lambda in " + c + " against LANGUAGE.md");
            }
        }
    }

    /** Rule 11, as far as the file's lines and the compiled classes show it. */
    static void allSizesOfTheLanguage() throws IOException {
        List<Class<?>> classes = new ArrayList<>(List.of(PoleNave.class.getDeclaredClasses()));
        classes.add(PoleNave.class);
        atMost("classes of the file", classes.size(), 12);
        for (Class<?> c : classes) {
            int fields = 0;
            for (Field f : c.getDeclaredFields()) {
                fields += Modifier.isStatic(f.getModifiers()) ? 0 : 1;
            }
            atMost("fields of " + c, fields, 20);
            for (Method m : c.getDeclaredMethods()) {
                atMost("parameters of " + m, m.getParameterCount(), 7);
            }
        }
        int methods = 0;
        int begin = 0;
        String end = null;
        List<String> lines = Files.readAllLines(SOURCE);
        for (int line = 0; line < lines.size(); line++) {
            String text = lines.get(line);
            if (end == null && text.matches(" {4}( {4})?\\w.*\\) \\{")) {
                methods++;
                begin = line;
                end = " ".repeat(text.length() - text.stripLeading().length()) + "}";
            } else if (text.equals(end)) {
                atMost("lines of what begins in line " + (begin + 1), line - begin + 1, 60);
                end = null;
            }
        }
        if (methods < FACE.length || end != null) {
            Check.fail("methods can't be told by the file's lines");
        }
    }

    private static void atMost(String what, int many, int most) {
        if (many > most) {
            Check.fail(many + " " + what + ", at most " + most + " by rule 11");
        }
    }

    /**
     * All calls of a run live in one room of 7.3 million fields and elements, so the dearest calls of one object, taken
     * 512 times, may not fill more than a hundredth of it.
     */
    static void allCallsStayInTheRoom() throws ReflectiveOperationException {
        PoleNave x = new PoleNave();
        String signs = "d960l960k960r960m19m28m37m46m55";
        x.text(0, signs.length());
        for (int i = 0; i < signs.length(); i++) {
            x.put(0, i, signs.charAt(i));
        }
        x.nave(0);
        x.row(1, 39);
        long most = 7_300_000L * Integer.BYTES / 100;
        long before = bytesMade();
        for (int j = 0; j < 64; j++) {
            x.best(0);
            x.fewest();
            x.laces(5, 2);
            x.duel(4);
            x.test(0, 1);
            x.lots(20, 7);
            x.undo(0);
            x.digest();
        }
        long made = bytesMade() - before;
        if (made > most) {
            Check.fail("512 calls made " + made + " bytes of objects, at most " + most + " are well");
        }
    }

    /** By a part of the library that not every machine has; 0 without it. */
    private static long bytesMade() throws ReflectiveOperationException {
        try {
            Object memory = Class.forName("java.lang.management.ManagementFactory").getMethod("getThreadMXBean").invoke(null);
            Method bytes = Class.forName("com.sun.management.ThreadMXBean").getMethod("getThreadAllocatedBytes", long.class);
            return (long) bytes.invoke(memory, Thread.currentThread().getId());
        } catch (ClassNotFoundException e) {
            return 0;
        }
    }

    private FaceTests() {
    }
}
