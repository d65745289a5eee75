import com.sun.management.ThreadMXBean;
import java.io.IOException;
import java.lang.management.ManagementFactory;
import java.lang.reflect.Field;
import java.lang.reflect.Method;
import java.lang.reflect.Modifier;
import java.nio.file.Files;
import java.nio.file.Path;
import java.util.ArrayList;
import java.util.List;
import java.util.Set;
import java.util.TreeSet;
import java.util.regex.Matcher;
import java.util.regex.Pattern;

/** The public face, what of LANGUAGE.md can be looked at in the text, and what a run of calls makes. */
public final class FaceTests {
    private static final Path DOCUMENT = Path.of("..", "shared", "DOC.md");
    private static final Path PROGRAM = Path.of("src", "main", "java", "SleepMoves.java");
    private static final long MADE_MOST = 1_000_000;

    private FaceTests() {
    }

    public static void main(String[] args) throws IOException {
        String document = Files.readString(DOCUMENT);
        String program = Files.readString(PROGRAM);
        face(document);
        members();
        words(program);
        lengths(program);
        made();
        Check.end();
    }

    private static void isTrue(String what, boolean is) {
        Check.due(what, is, true);
    }

    /** Rule 1: what the document's code block tells, and no more. */
    private static void face(String document) {
        int from = document.indexOf("```java");
        String block = document.substring(from, document.indexOf("```", from + 3));
        Set<String> told = new TreeSet<>();
        Matcher method = Pattern.compile("public (\\w+) (\\w+)\\(([^)]*)\\)( throws (\\w+))?;").matcher(block);
        while (method.find()) {
            String types = method.group(3).replaceAll("(\\w+) \\w+", "$1").replace(" ", "");
            told.add(method.group(1) + " " + method.group(2) + "(" + types + ")" + (method.group(5) == null ? "" : method.group(5)));
        }
        Set<String> there = new TreeSet<>();
        for (Method m : SleepMoves.class.getDeclaredMethods()) {
            if (!Modifier.isPrivate(m.getModifiers())) {
                List<String> types = new ArrayList<>();
                for (Class<?> type : m.getParameterTypes()) {
                    types.add(type.getSimpleName());
                }
                String thrown = m.getExceptionTypes().length == 0 ? "" : m.getExceptionTypes()[0].getSimpleName();
                there.add(m.getReturnType().getSimpleName() + " " + m.getName() + "(" + String.join(",", types) + ")" + thrown);
            }
        }
        Check.due("methods of the face", there.size(), 39);
        isTrue("the face is " + there + ", told is " + told, there.equals(told));
        Check.due("NONE", SleepMoves.NONE, -1);
        Check.due("HIDDEN", SleepMoves.HIDDEN, -1000000);
    }

    private static void members() {
        isTrue("the class is public and final", Modifier.isPublic(SleepMoves.class.getModifiers())
            && Modifier.isFinal(SleepMoves.class.getModifiers()));
        Check.due("constructors", SleepMoves.class.getDeclaredConstructors().length, 1);
        Set<String> face = new TreeSet<>();
        for (Method m : SleepMoves.class.getDeclaredMethods()) {
            if (Modifier.isPublic(m.getModifiers())) {
                face.add(m.getName());
            }
        }
        for (Field f : SleepMoves.class.getDeclaredFields()) {
            boolean isConstant = f.getName().equals("NONE") || f.getName().equals("HIDDEN");
            isTrue("field " + f.getName(), isConstant || Modifier.isPrivate(f.getModifiers()));
        }
        isTrue("twelve classes at most", SleepMoves.class.getDeclaredClasses().length < 12);
        for (Class<?> c : SleepMoves.class.getDeclaredClasses()) {
            isTrue("class " + c, Modifier.isStatic(c.getModifiers()) && Modifier.isPrivate(c.getModifiers()));
            int fields = 0;
            for (Field f : c.getDeclaredFields()) {
                fields += Modifier.isStatic(f.getModifiers()) ? 0 : 1;
                isTrue("static " + f, !Modifier.isStatic(f.getModifiers()) || Modifier.isFinal(f.getModifiers()));
            }
            isTrue("fields of " + c, fields <= 20);
            for (Method m : c.getDeclaredMethods()) {
                boolean isHidden = Modifier.isPrivate(m.getModifiers());
                isTrue("private " + m, !isHidden || !face.contains(m.getName()));
                isTrue("parameters of " + m, m.getParameterCount() <= 7);
            }
        }
    }

    /** Rules 2, 4, 6, 12, 13: words that must not stand in the program. */
    private static void words(String program) {
        String code = program.replaceAll("/\\*(.|\\R)*?\\*/", "").replaceAll("//[^\n]*", "");
        String[] banned = {"\\bcatch\\b", "\\btry\\b", "\\bfinally\\b", "->", "::", "\\bassert\\b", "\\bsynchronized\\b", "\\bpackage\\b",
            "\\bprotected\\b", "\\bSystem\\.(?!arraycopy)", "\\bjava\\.(?!util\\.(ArrayList|NoSuchElementException);)", "\\bThread\\b",
            "\\bdouble\\b", "\\bfloat\\b", "\\bRandom\\b", "\\w+Exact\\b", "\\bvar\\b", "\\byield\\b", "\\binstanceof\\b", "\\bhashCode\\b",
            "\\bstatic \\{", "\\.equals\\(", "toString", "@SuppressWarnings"};
        for (String word : banned) {
            Matcher found = Pattern.compile(word).matcher(code);
            isTrue("no " + word + " in the program", !found.find());
        }
        isTrue("signs 1 to 127 alone", program.chars().allMatch(sign -> sign > 0 && sign < 128));
        isTrue("lines of 120 at most", program.lines().allMatch(line -> line.length() <= 120));
    }

    /** Rule 11: no method is longer than sixty lines. */
    private static void lengths(String program) {
        String[] lines = program.split("\n");
        for (int i = 0; i < lines.length; i++) {
            if (lines[i].matches("( {4}){1,2}[a-zA-Z].*\\) (throws \\w+ )?\\{") && !lines[i].contains(" class ")) {
                String close = lines[i].replaceAll("\\S.*", "") + "}";
                int end = i;
                while (end < lines.length && !lines[end].equals(close)) {
                    end++;
                }
                isTrue("length of " + lines[i].trim(), end - i < 60);
            }
        }
    }

    /** What the dearest calls make: next to nothing, for all calls of a run live in one room. */
    private static void made() {
        ThreadMXBean threads = (ThreadMXBean) ManagementFactory.getThreadMXBean();
        long self = Thread.currentThread().getId();
        long ahead = threads.getThreadAllocatedBytes(self);
        SleepMoves x = Check.street("h6;wk3;wa1k3;wa2k3;wa3k1;wa4k2;o;oa1;oa2;oa5;m");
        Check.rule(x, 0, "y:(n=1|q>2)&!m=1?[n+h*s-q]/[w+1];y:n*q+3");
        x.risk(50);
        for (int i = 0; i < 60; i++) {
            x.test(0, 20, 1);
            x.homing(20, 0);
            x.odds(0, 4, 1);
            x.pairs(0, 1);
            x.round(0);
            x.nights(60);
            x.stay(0, 60);
        }
        long made = threads.getThreadAllocatedBytes(self) - ahead;
        System.out.println(made + " bytes were made");
        isTrue("bytes made: " + made, made < MADE_MOST);
    }
}
