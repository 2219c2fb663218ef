import java.io.IOException;
import java.lang.management.ManagementFactory;
import java.lang.reflect.Executable;
import java.lang.reflect.Field;
import java.lang.reflect.Method;
import java.lang.reflect.Modifier;
import java.nio.file.Files;
import java.nio.file.Path;
import java.util.ArrayList;
import java.util.List;
import java.util.Set;
import java.util.TreeSet;
import java.util.regex.Matcher;
import java.util.regex.Pattern;

/** The face of the class, the rules of LANGUAGE.md that a program can look for, and the room it takes. */
public final class LanguageTests {
    private static final Path SOURCE = Path.of("src/main/java/NeedleHands.java");
    private static final String[] FACE = {
        "int type(int)", "int clear()", "int shop()", "int step(int,int)", "int line(int)", "int makes(int)",
        "int looks(int,int)", "int skill(int,int)", "int moves(int)", "int undo()", "int now(int)",
        "long mean(int,int)", "long lost(int,int)", "long paper(int,int)", "int bestLooks()",
        "int bestOrder(int)", "int few(int)", "long blame(int,int,int)", "int first(int)", "int tells(int,int)",
        "int forget()", "int who(int)", "int mark(int,int)", "int keep(int)", "int back(int)", "int count(int)",
        "long trace()"};
    private static final String[] OUTSIDE = {"\\bthrow\\b", "\\bthrows\\b", "\\btry\\b", "\\bcatch\\b",
        "\\bsynchronized\\b", "\\bassert\\b", "\\bimport\\b", "\\bpackage\\b", "->", "::", "Exact\\b",
        "\\bstatic\\s*\\{", "\\bprotected\\b", "\\bhashCode\\b", "\\btoString\\b", "\\bfloat\\b", "\\bdouble\\b",
        "\\bvar\\b", "\\bObject\\b", "\\bvolatile\\b", "\\btransient\\b", "\\bnative\\b"};

    private LanguageTests() {
    }

    public static void main(String[] args) throws IOException {
        face();
        constants();
        for (Class<?> one : classes()) {
            members(one);
        }
        Check.holds("some twelve classes", classes().size() <= 12);
        words(bare(Files.readString(SOURCE)));
        library(bare(Files.readString(SOURCE)));
        methodsAreShort(Files.readAllLines(SOURCE));
        room();
        Check.end("LanguageTests");
    }

    private static List<Class<?>> classes() {
        List<Class<?>> all = new ArrayList<>();
        all.add(NeedleHands.class);
        all.addAll(List.of(NeedleHands.class.getDeclaredClasses()));
        return all;
    }

    private static String headOf(Method method) {
        StringBuilder head = new StringBuilder(method.getReturnType() + " " + method.getName() + "(");
        for (Class<?> type : method.getParameterTypes()) {
            head.append(head.charAt(head.length() - 1) == '(' ? "" : ",").append(type);
        }
        return head.append(')').toString();
    }

    private static void face() {
        Class<?> it = NeedleHands.class;
        Check.is("public and final", it.getModifiers(), Modifier.PUBLIC | Modifier.FINAL);
        Check.is("constructors", it.getDeclaredConstructors().length, 1);
        Check.is("public constructors", it.getConstructors().length, 1);
        Set<String> due = new TreeSet<>(List.of(FACE));
        Set<String> open = new TreeSet<>();
        for (Method method : it.getDeclaredMethods()) {
            if (!Modifier.isPrivate(method.getModifiers())) {
                open.add(headOf(method));
            }
        }
        Check.holds("the methods are the document's: " + open, open.equals(due));
        for (Class<?> one : classes()) {
            for (Method method : one.getDeclaredMethods()) {
                boolean isFace = one == it && !Modifier.isPrivate(method.getModifiers());
                boolean bearsName = due.stream().anyMatch(head -> head.contains(" " + method.getName() + "("));
                Check.holds(one + " " + method.getName() + " is a name of its own", isFace || !bearsName);
            }
        }
    }

    private static void constants() {
        Set<String> open = new TreeSet<>();
        for (Field field : NeedleHands.class.getDeclaredFields()) {
            if (!Modifier.isPrivate(field.getModifiers())) {
                open.add(field.getName());
            }
        }
        Check.holds("the constants are the document's: " + open,
                open.equals(Set.of("BAD", "STATE", "FULL", "NONE", "NO")));
        Check.is("BAD", NeedleHands.BAD, -1);
        Check.is("STATE", NeedleHands.STATE, -2);
        Check.is("FULL", NeedleHands.FULL, -3);
        Check.is("NONE", NeedleHands.NONE, -9);
        Check.is("NO", NeedleHands.NO, -1000000);
    }

    private static void members(Class<?> one) {
        Check.holds(one + " is static", one == NeedleHands.class || Modifier.isStatic(one.getModifiers()));
        int own = 0;
        for (Field field : one.getDeclaredFields()) {
            boolean isStatic = Modifier.isStatic(field.getModifiers());
            own += isStatic ? 0 : 1;
            Check.holds(field + " is final if static", !isStatic || Modifier.isFinal(field.getModifiers()));
        }
        Check.holds(one + " has some twenty fields", own <= 20);
        List<Executable> all = new ArrayList<>(List.of(one.getDeclaredMethods()));
        all.addAll(List.of(one.getDeclaredConstructors()));
        for (Executable method : all) {
            Check.holds(method + " takes seven at most", method.getParameterCount() <= 7);
        }
    }

    /** The source without comments, texts and signs. */
    private static String bare(String source) {
        return source.replaceAll("(?s)/\\*.*?\\*/", " ").replaceAll("//[^\n]*", " ")
                .replaceAll("\"[^\"\n]*\"", "\"\"").replaceAll("'[^'\n]+'", "' '");
    }

    private static void words(String bare) {
        for (String word : OUTSIDE) {
            Check.holds("no " + word, !Pattern.compile(word).matcher(bare).find());
        }
    }

    private static void library(String bare) {
        Set<String> used = new TreeSet<>();
        Matcher matcher = Pattern.compile("\\b(String|StringBuilder|Integer|Long|Math|System|Arrays|List|ArrayList)\\b"
                + "(\\.\\w+)?").matcher(bare);
        while (matcher.find()) {
            used.add(matcher.group());
        }
        used.removeAll(Set.of("Integer.bitCount", "Math.min", "System.arraycopy"));
        Check.holds("the library as listed, not " + used, used.isEmpty());
    }

    private static void methodsAreShort(List<String> lines) {
        int begun = -1;
        int depth = 0;
        for (int i = 0; i < lines.size(); i++) {
            String line = lines.get(i);
            boolean isHead = line.matches("\\s+.*\\) \\{") && !line.matches("\\s+(\\} )?(if|for|while|switch|else)\\b.*");
            if (isHead) {
                begun = i;
                depth = line.indexOf(line.trim());
            }
            if (begun >= 0 && line.equals(" ".repeat(depth) + "}")) {
                Check.holds(lines.get(begun).trim() + " is short", i - begun < 60);
                begun = -1;
            }
        }
    }

    private static long allocated() {
        return ((com.sun.management.ThreadMXBean) ManagementFactory.getThreadMXBean())
                .getThreadAllocatedBytes(Thread.currentThread().getId());
    }

    /** Every call uses the constructor's rows again, so that a run's room does not grow with its calls. */
    private static void room() {
        NeedleHands x = callAll(new NeedleHands());
        long before = allocated();
        for (int i = 0; i < 1000; i++) {
            callAll(x);
        }
        long calls = allocated() - before;
        Check.holds("calls make nothing, not " + calls + " bytes", calls < 100000);
        before = allocated();
        for (int i = 0; i < 1000; i++) {
            x = new NeedleHands();
        }
        long made = (allocated() - before) / 1000;
        Check.holds("an object takes " + made + " bytes", made < 14000 && x.count(0) == 0);
    }

    private static NeedleHands callAll(NeedleHands x) {
        x.clear();
        typeSteps(x);
        x.shop();
        for (int i = 0; i < 5; i++) {
            x.looks(i, 1);
            x.skill(i, 4);
            x.moves(i);
            x.makes(i);
            x.step(i, i);
            x.line(i);
            x.mean(i, 0);
            x.lost(i, 0);
            x.bestOrder(i);
            x.blame(4, i, 0);
            x.first(i);
            x.tells(i, 2);
            x.mark(i, 0);
            x.now(i);
            x.count(i);
            x.who(i % 3);
        }
        x.keep(0);
        x.undo();
        x.back(0);
        x.paper(3, 0);
        x.bestLooks();
        x.few(3);
        x.forget();
        x.trace();
        return x;
    }

    private static void typeSteps(NeedleHands x) {
        for (int s = 0; s < 5; s++) {
            x.type('s');
            for (int n = 0; n < 4; n++) {
                x.type('5');
                x.type(' ');
            }
            x.type(';');
        }
    }
}
