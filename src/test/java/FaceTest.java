import java.lang.reflect.Constructor;
import java.lang.reflect.Field;
import java.lang.reflect.Method;
import java.lang.reflect.Modifier;
import java.nio.file.Files;
import java.nio.file.Path;
import java.util.Set;
import java.util.TreeSet;
import java.util.regex.Matcher;
import java.util.regex.Pattern;

/** The public face as the document prints it, and the rules of LANGUAGE.md that can be looked up. */
public final class FaceTest {
    private static final String FACE = "boolean phases(int,int);int sample(int,int);long again(int);"
        + "boolean set(int,int);int table(int,int,int);int wipe(int);int feed(int,int,int,int,int);"
        + "boolean end(int);int calendar();int fault(int);boolean seal(int);boolean open(int);"
        + "boolean season(int,int);boolean week(int,int,int);boolean special(int,int);int move(int);"
        + "int off(int);boolean mark(int,boolean);boolean prepaid(boolean);long pay(int);int bill();"
        + "long period(int,int);long raw(int,int);long reading(int,int);int tariffAt(int);int tableOf(int);"
        + "int switching(int,int,int);int next(int);int marked(int,int);long load(int,int);long block(int);"
        + "long demand(int);long greatest(int,int);long billed(int,int,int);long bills(int,int);"
        + "long money(int,int);long would(int,int);long cost(int);long cheapest(int,int);int lasts();"
        + "long lost(int);long best(int,int);long between(int,int);int log(int,int);int holds(int,int);"
        + "boolean image(boolean);long look(int)";

    private FaceTest() {
    }

    public static void main(String[] args) throws Exception {
        Set<String> names = new TreeSet<>();
        methodsAreTheFace(names);
        fieldsAndConstructor();
        Check.due("NONE", WorkMeter.NONE, -1);
        int classes = 1;
        for (Class<?> inside : WorkMeter.class.getDeclaredClasses()) {
            classes++;
            insideClass(inside, names);
        }
        yes("twelve classes at most", classes <= 12);
        sourceKeepsToTheRules(Files.readString(Path.of("src/main/java/WorkMeter.java")));
        Check.finish();
    }

    private static void yes(String what, boolean is) {
        Check.due(what, is, true);
    }

    private static void methodsAreTheFace(Set<String> names) {
        Set<String> due = new TreeSet<>(Set.of(FACE.split(";")));
        Set<String> open = new TreeSet<>();
        for (Method m : WorkMeter.class.getDeclaredMethods()) {
            if (m.isSynthetic()) {
                continue;
            }
            StringBuilder text = new StringBuilder(m.getReturnType() + " " + m.getName() + "(");
            for (Class<?> p : m.getParameterTypes()) {
                text.append(text.charAt(text.length() - 1) == '(' ? "" : ",").append(p);
            }
            if (Modifier.isPublic(m.getModifiers())) {
                open.add(text.append(")").toString());
                names.add(m.getName());
            } else {
                yes(m.getName() + " is private", Modifier.isPrivate(m.getModifiers()));
            }
        }
        yes("the face is " + due + ", not " + open, due.equals(open));
        for (Method m : WorkMeter.class.getDeclaredMethods()) {
            yes(m.getName() + " has no public namesake",
                Modifier.isPublic(m.getModifiers()) || !names.contains(m.getName()));
        }
    }

    private static void fieldsAndConstructor() {
        yes("public and final", Modifier.isPublic(WorkMeter.class.getModifiers())
            && Modifier.isFinal(WorkMeter.class.getModifiers()));
        Constructor<?>[] made = WorkMeter.class.getDeclaredConstructors();
        yes("one public constructor", made.length == 1 && Modifier.isPublic(made[0].getModifiers()));
        for (Field f : WorkMeter.class.getDeclaredFields()) {
            yes(f.getName() + " is private", f.getName().equals("NONE") || Modifier.isPrivate(f.getModifiers()));
            yes(f.getName() + " is final if static",
                !Modifier.isStatic(f.getModifiers()) || Modifier.isFinal(f.getModifiers()));
        }
    }

    private static void insideClass(Class<?> inside, Set<String> names) {
        yes(inside + " is static", Modifier.isStatic(inside.getModifiers()));
        yes(inside + " is not open", !Modifier.isPublic(inside.getModifiers())
            && !Modifier.isProtected(inside.getModifiers()));
        int fields = 0;
        for (Field f : inside.getDeclaredFields()) {
            boolean fixed = Modifier.isStatic(f.getModifiers());
            fields += fixed ? 0 : 1;
            yes(f + " is final if static", !fixed || Modifier.isFinal(f.getModifiers()));
        }
        yes(inside + " has twenty fields at most", fields <= 20);
        for (Method m : inside.getDeclaredMethods()) {
            yes(m + " has seven parameters at most", m.getParameterCount() <= 7);
            yes(m + " has no public namesake", !names.contains(m.getName()));
        }
    }

    private static void sourceKeepsToTheRules(String source) {
        String code = source.replaceAll("(?s)/\\*.*?\\*/", "").replaceAll("//[^\n]*", "");
        for (String word : new String[] {"throw", "throws", "try", "catch", "synchronized", "assert", "package",
            "double", "float", "Object", "Thread", "Random", "hashCode", "toString", "record"}) {
            Matcher m = Pattern.compile("\\b" + word + "\\b").matcher(code);
            yes("no " + word, !m.find());
        }
        yes("no lambda", !code.contains("->"));
        yes("no method reference", !code.contains("::"));
        yes("Arrays is all that comes from outside", code.split("\\bimport\\b").length == 2
            && code.contains("import java.util.Arrays;"));
        Matcher library = Pattern.compile("\\b(Math|Arrays|System)\\.(\\w+)").matcher(code);
        while (library.find()) {
            yes(library.group() + " is allowed", Set.of("Math.abs", "Math.min", "Math.max", "Arrays.fill",
                "System.arraycopy").contains(library.group()));
        }
        yes("plain signs", source.chars().allMatch(c -> c < 128));
        longestMethod(code);
    }

    private static void longestMethod(String code) {
        int lines = 0;
        String closing = "";
        for (String line : code.split("\n")) {
            if (closing.isEmpty() && line.matches("( {4}| {8})\\S.*\\(.*\\) \\{")) {
                closing = line.substring(0, line.length() - line.stripLeading().length()) + "}";
                lines = 0;
            }
            lines++;
            if (line.equals(closing)) {
                yes("a method of " + lines + " lines", lines <= 60);
                closing = "";
            }
        }
    }
}
