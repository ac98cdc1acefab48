import java.io.IOException;
import java.lang.management.ManagementFactory;
import java.lang.reflect.Constructor;
import java.lang.reflect.Field;
import java.lang.reflect.Method;
import java.lang.reflect.Modifier;
import java.nio.file.Files;
import java.nio.file.Path;
import java.util.ArrayList;
import java.util.List;
import java.util.Set;
import java.util.TreeSet;
import java.util.regex.Matcher;
import java.util.regex.Pattern;

/** The face of the document, and the rules of LANGUAGE.md that can be seen from outside. */
public final class RulesTest {
    private static final Path SOURCE = Path.of("src/main/java/SecondTill.java");
    private static final String[] FACE = {
        "write 1", "wipe 0", "fault 0", "lay 0", "person 2", "come 3", "leave 1", "pass 1", "slow 1", "undo 0",
        "goes 1", "done 2", "overtaken 1", "best 2", "fair 1", "oneRow 1", "called 2", "open 2", "tape 2",
        "forget 0", "kinds 1", "beaten 3", "learner 0", "day 3", "keep 0", "back 0", "count 1"};
    private static final String[] FORBIDDEN = {
        "throw", "throws", "try", "catch", "finally", "synchronized", "assert", "import", "package", "System",
        "Random", "Thread", "Object", "hashCode", "toString", "protected", "Exception", "->", "::"};
    /** Of the library; all other names before a dot are fields, parameters and locals of the class's own types. */
    private static final Set<String> LIBRARY = Set.of("Math.max", "Math.min", "Math.abs", "Integer.bitCount");
    private static final long ROOMIEST_OBJECT = 8192, SMALLEST_OBJECT = 16;
    private static final int LONGEST_METHOD = 60, MOST_CLASSES = 12, MOST_FIELDS = 20, MOST_PARAMETERS = 7;

    private static int wrong = 0;

    private static void must(boolean holds, String rule) {
        if (!holds) {
            wrong++;
            System.out.println("not so: " + rule);
        }
    }

    public static void main(String[] args) throws IOException {
        face();
        for (Class<?> inside : SecondTill.class.getDeclaredClasses()) {
            must(Modifier.isStatic(inside.getModifiers()), inside + " is static");
            for (Method method : inside.getDeclaredMethods()) {
                must(!namesOfFace().contains(method.getName()), method + " has a name of its own");
            }
            fields(inside);
        }
        must(SecondTill.class.getDeclaredClasses().length < MOST_CLASSES, "twelve classes at most");
        fields(SecondTill.class);
        source(Files.readAllLines(SOURCE));
        oddArguments();
        room();
        System.out.println(wrong == 0 ? "the rules are kept" : wrong + " rules are not kept");
        if (wrong != 0) {
            System.exit(1);
        }
    }

    private static Set<String> namesOfFace() {
        Set<String> names = new TreeSet<>();
        for (String one : FACE) {
            names.add(one.split(" ")[0]);
        }
        return names;
    }

    private static void face() {
        Set<String> want = new TreeSet<>(List.of(FACE));
        Set<String> names = namesOfFace();
        Set<String> got = new TreeSet<>();
        for (Method method : SecondTill.class.getDeclaredMethods()) {
            if (Modifier.isPublic(method.getModifiers())) {
                got.add(method.getName() + " " + method.getParameterCount());
                must(method.getReturnType() == int.class, method + " answers an int");
            } else {
                must(Modifier.isPrivate(method.getModifiers()), method + " is private");
                must(!names.contains(method.getName()), method + " has a name of its own");
            }
        }
        must(got.equals(want), "the face is " + want + ", not " + got);
        Constructor<?>[] makers = SecondTill.class.getDeclaredConstructors();
        must(makers.length == 1 && Modifier.isPublic(makers[0].getModifiers()) && makers[0].getParameterCount() == 0,
            "one public constructor without parameters");
        must(Modifier.isFinal(SecondTill.class.getModifiers()), "the class is final");
    }

    private static void fields(Class<?> one) {
        int own = 0;
        for (Field field : one.getDeclaredFields()) {
            int is = field.getModifiers();
            boolean named = Set.of("BAD", "NO", "FULL", "NONE").contains(field.getName());
            if (one == SecondTill.class) {
                must(named ? Modifier.isPublic(is) : Modifier.isPrivate(is), field + " is as the face has it");
            }
            if (Modifier.isStatic(is)) {
                must(Modifier.isFinal(is), field + " is final");
            } else {
                own++;
            }
        }
        must(own <= MOST_FIELDS, one + " has " + own + " fields");
        for (Method method : one.getDeclaredMethods()) {
            must(method.getParameterCount() <= MOST_PARAMETERS, method + " has seven parameters at most");
        }
    }

    private static void source(List<String> lines) {
        List<String> code = new ArrayList<>();
        for (String line : lines) {
            code.add(line.replaceAll("/\\*\\*.*\\*/", "").replaceAll("//.*", ""));
        }
        for (String word : FORBIDDEN) {
            boolean letters = Character.isLetter(word.charAt(0));
            Pattern pattern = Pattern.compile(letters ? "\\b" + word + "\\b" : Pattern.quote(word));
            for (int i = 0; i < code.size(); i++) {
                Matcher found = pattern.matcher(code.get(i));
                must(!found.find(), "line " + (i + 1) + " is without " + word);
            }
        }
        Matcher library = Pattern.compile("\\b[A-Z][a-z]\\w*\\.\\w+").matcher(String.join("\n", code));
        while (library.find()) {
            must(LIBRARY.contains(library.group()), "the library is used only as told: " + library.group());
        }
        methodsAreShort(code);
    }

    private static void methodsAreShort(List<String> code) {
        Pattern head = Pattern.compile("^( {4}| {8})(?! )(?!.*\\bclass\\b).*\\) \\{$");
        for (int i = 0; i < code.size(); i++) {
            Matcher found = head.matcher(code.get(i));
            if (found.find()) {
                int end = i;
                while (end < code.size() && !code.get(end).equals(found.group(1) + "}")) {
                    end++;
                }
                must(end - i <= LONGEST_METHOD, "line " + (i + 1) + " begins a short method");
            }
        }
    }

    /** No call fails for any numbers, with a row and without one. */
    private static void oddArguments() {
        int[] odd = {Integer.MIN_VALUE, -65536, -3, -2, -1, 0, 1, 2, 3, 7, 8, 9, 20, 30, 31, 32, 33, 200, 65568,
            Integer.MAX_VALUE};
        for (int state = 0; state < 2; state++) {
            for (int a : odd) {
                for (int b : odd) {
                    SecondTill x = new SecondTill();
                    if (state == 1) {
                        x.pass(200);
                    }
                    askAll(x, a, b);
                }
            }
        }
    }

    private static void askAll(SecondTill x, int a, int b) {
        int[] answers = {
            x.person(a, b), x.goes(a), x.done(a, b), x.overtaken(a), x.best(a, b), x.fair(a), x.oneRow(a),
            x.called(a, b), x.open(a, b), x.tape(a, b), x.kinds(a), x.beaten(a, b, 0), x.beaten(0, a, b),
            x.beaten(a, 5, b), x.learner(), x.day(a, b, 0), x.day(5, a, b), x.count(a), x.write(a), x.write(b),
            x.fault(), x.lay(), x.come(a, b, 1), x.come(0, a, b), x.come(a, 1, b), x.leave(a), x.pass(b), x.slow(a),
            x.undo(), x.keep(), x.back(), x.forget(), x.wipe()};
        for (int k = 0; k < answers.length; k++) {
            must(answers[k] >= -4, "answer " + k + " by " + a + ", " + b + " is told: " + answers[k]);
        }
    }

    /** One room holds all objects of a run: a new one is small, and no call makes any. */
    private static void room() {
        long before = bytesMade();
        SecondTill[] made = new SecondTill[1000];
        for (int k = 0; k < made.length; k++) {
            made[k] = new SecondTill();
        }
        long each = (bytesMade() - before) / made.length;
        must(each <= ROOMIEST_OBJECT, "a new object is small, not of " + each + " bytes");
        for (int round = 0; round < 2; round++) {
            before = bytesMade();
            long answers = 0;
            for (SecondTill x : made) {
                answers += callEach(x);
            }
            long bytes = bytesMade() - before;
            // The first round loads what the machine itself needs; to ask for the bytes makes some, too.
            must(round == 0 || bytes < SMALLEST_OBJECT * made.length, "no call makes an object, but " + bytes + " bytes were made");
            must(answers != 0, "the calls were made");
        }
    }

    private static long bytesMade() {
        com.sun.management.ThreadMXBean threads =
            (com.sun.management.ThreadMXBean) ManagementFactory.getThreadMXBean();
        return threads.getThreadAllocatedBytes(Thread.currentThread().getId());
    }

    private static long callEach(SecondTill x) {
        long sum = x.wipe() + x.write('p') + x.write('3') + x.write(',') + x.write('9') + x.write(',') + x.write('1')
            + x.write(';') + x.fault() + x.lay();
        for (int k = 0; k < 8; k++) {
            sum += x.come(k % 4, 5 + k, 1 + k % 3) + x.tape(k, k % 2) + x.slow(1 + k) + x.goes(k) + x.kinds(k);
            sum += x.person(k, 3) + x.done(k, 1) + x.overtaken(k) + x.oneRow(k) + x.beaten(k, k, 0) + x.count(k);
        }
        sum += x.best(0, 0) + x.best(1, 1) + x.fair(0) + x.called(0, 1) + x.open(3, 0) + x.learner() + x.day(7, 30, 0);
        sum += x.keep() + x.keep() + x.keep() + x.forget() + x.leave(2) + x.pass(30) + x.undo() + x.back() + x.back();
        return sum + x.back() + x.undo();
    }
}
