import java.lang.reflect.Field;
import java.lang.reflect.Method;
import java.lang.reflect.Modifier;
import java.nio.file.Files;
import java.nio.file.Path;
import java.util.ArrayList;
import java.util.List;
import java.util.Set;
import java.util.TreeSet;
import java.util.regex.Matcher;
import java.util.regex.Pattern;

/** The public face is the document's and no more, the source keeps to LANGUAGE.md, and calls make few objects. */
public final class FaceTests {
    private static final String[] FACE = {
        "int letter(int)", "int blank()", "int fault()", "int kitchen()", "int about(int,int)", "int as(int,int)",
        "int boil(int)", "int wind(int)", "int take(int)", "int plan(int)", "int sure(int,int)", "int best(int)",
        "int together(int,int)", "int tell(int,int)", "int forget()", "int wound(int)", "int evenings(int,int,int)",
        "int image()", "int restore()", "int count(int)", "long digest()"};
    private static final String[] NOT_IN_SOURCE = {
        "\\bimport\\b", "\\bpackage\\b", "->", "::", "\\btry\\b", "\\bcatch\\b", "\\bfinally\\b", "\\bthrow\\b",
        "\\bsynchronized\\b", "\\bassert\\b", "\\bdouble\\b", "\\bfloat\\b", "\\bSystem\\b", "\\bhashCode\\b",
        "\\btoString\\b", "\\w+Exact\\b", "@\\w", "[^\\x00-\\x7f]"};
    private static final Pattern HEAD =
        Pattern.compile("(?:(?:public|private|static|final) )*[\\w\\[\\]]+ \\w+\\(.*\\) \\{");
    private static final Pattern NO_HEAD = Pattern.compile("(if|for|while|switch|else|return|\\}) .*");
    private static final Pattern INDEX = Pattern.compile("\\w\\[([^\\]]+)\\]");
    private static final Pattern VARIABLE = Pattern.compile("\\b[a-z]\\w*");
    private static final int MOST_LINES = 60, MOST_PARAMETERS = 7, MOST_FIELDS = 20;
    private static int wrong = 0;

    public static void main(String[] args) throws Exception {
        methods();
        fields();
        privateNames();
        sizes();
        source();
        indices();
        room();
        System.out.println("face: " + wrong + " wrong");
        if (wrong != 0) {
            System.exit(1);
        }
    }

    private static void check(boolean so, String what) {
        if (!so) {
            wrong++;
            System.out.println("not so: " + what);
        }
    }

    private static String told(Method method) {
        StringBuilder text = new StringBuilder();
        text.append(method.getReturnType()).append(' ').append(method.getName()).append('(');
        for (int i = 0; i < method.getParameterCount(); i++) {
            text.append(i == 0 ? "" : ",").append(method.getParameterTypes()[i]);
        }
        return text.append(')').toString();
    }

    private static void methods() {
        Set<String> seen = new TreeSet<>();
        for (Method method : OneTimer.class.getDeclaredMethods()) {
            if (!Modifier.isPrivate(method.getModifiers())) {
                seen.add(told(method));
                check(Modifier.isPublic(method.getModifiers()), "public: " + method);
            }
        }
        check(seen.equals(new TreeSet<>(Set.of(FACE))), "the face is the document's, but is " + seen);
        int modifiers = OneTimer.class.getModifiers();
        check(Modifier.isPublic(modifiers) && Modifier.isFinal(modifiers), "public final class");
        check(OneTimer.class.getDeclaredConstructors().length == 1, "one constructor");
        check(OneTimer.class.getConstructors().length == 1, "a public constructor");
    }

    private static void fields() {
        Set<String> seen = new TreeSet<>();
        for (Field field : OneTimer.class.getDeclaredFields()) {
            int modifiers = field.getModifiers();
            check(!Modifier.isStatic(modifiers) || Modifier.isFinal(modifiers), "final: " + field);
            if (!Modifier.isPrivate(modifiers)) {
                seen.add(field.getName());
            }
        }
        check(seen.equals(Set.of("NONE", "UNKNOWN", "OUTSIDE", "STATE", "FULL")), "constants, but are " + seen);
        check(OneTimer.NONE == -1 && OneTimer.UNKNOWN == -101 && OneTimer.OUTSIDE == -102, "constants");
        check(OneTimer.STATE == -103 && OneTimer.FULL == -104, "constants");
    }

    private static void privateNames() {
        Set<String> names = new TreeSet<>();
        for (Method method : OneTimer.class.getMethods()) {
            names.add(method.getName());
        }
        for (Method method : OneTimer.class.getDeclaredMethods()) {
            if (Modifier.isPrivate(method.getModifiers())) {
                check(!names.contains(method.getName()), "a name of its own: " + method);
            }
        }
        check(OneTimer.class.getDeclaredClasses().length <= 12, "at most twelve classes");
        for (Class<?> inside : OneTimer.class.getDeclaredClasses()) {
            int modifiers = inside.getModifiers();
            check(Modifier.isStatic(modifiers) && !Modifier.isPublic(modifiers), "static, not public: " + inside);
        }
    }

    /** LANGUAGE.md, rule 11. */
    private static void sizes() throws Exception {
        List<Class<?>> classes = new ArrayList<>(List.of(OneTimer.class.getDeclaredClasses()));
        classes.add(OneTimer.class);
        for (Class<?> one : classes) {
            int fields = 0;
            for (Field field : one.getDeclaredFields()) {
                fields += Modifier.isStatic(field.getModifiers()) ? 0 : 1;
            }
            check(fields <= MOST_FIELDS, "few fields, but " + one + " has " + fields);
            for (Method method : one.getDeclaredMethods()) {
                check(method.getParameterCount() <= MOST_PARAMETERS, "few parameters: " + method);
            }
        }
        for (List<String> method : methodsOfSource()) {
            check(method.size() <= MOST_LINES, "a short method: " + method.get(0));
        }
    }

    private static String code() throws Exception {
        String path = System.getProperty("onetimer.source", "src/main/java/OneTimer.java");
        String text = Files.readString(Path.of(path));
        return text.replaceAll("(?s)/\\*.*?\\*/", "").replaceAll("//[^\n]*", "");
    }

    private static void source() throws Exception {
        String code = code();
        for (String pattern : NOT_IN_SOURCE) {
            check(!Pattern.compile(pattern).matcher(code).find(), "no " + pattern + " in the source");
        }
    }

    /** The lines of each method, from its head to the brace that stands below the head. */
    private static List<List<String>> methodsOfSource() throws Exception {
        List<List<String>> methods = new ArrayList<>();
        List<String> open = null;
        String end = "";
        for (String line : code().split("\n")) {
            String bare = line.strip();
            if (open == null && HEAD.matcher(bare).matches() && !NO_HEAD.matcher(bare).matches()) {
                open = new ArrayList<>();
                end = line.substring(0, line.indexOf(bare)) + "}";
            }
            if (open != null) {
                open.add(bare);
                if (line.equals(end)) {
                    methods.add(open);
                    open = null;
                }
            }
        }
        return methods;
    }

    /** LANGUAGE.md, rule 7: an index is looked at, in the very method that uses it, before it is used. */
    private static void indices() throws Exception {
        int seen = 0;
        for (List<String> method : methodsOfSource()) {
            StringBuilder ahead = new StringBuilder();
            for (String line : method) {
                ahead.append(line).append('\n');
                Matcher index = INDEX.matcher(line.replaceAll("new \\w+\\[.*", ""));
                while (index.find()) {
                    seen++;
                    checkIndex(index.group(1), ahead.toString(), method.get(0));
                }
            }
        }
        check(seen >= 20, "the indices of the source are seen, but only " + seen + " were");
    }

    private static void checkIndex(String index, String ahead, String head) {
        Matcher variable = VARIABLE.matcher(index);
        while (variable.find()) {
            String name = variable.group();
            String looked = "\\b" + name + " (<|>=) |\\bis(Set|InRow)\\([^)]*\\b" + name + "\\b";
            check(Pattern.compile(looked).matcher(ahead).find(),
                name + " is looked at before [" + index + "] in " + head);
        }
    }

    /** All calls of a run share one room: only a kitchen that is read makes objects. */
    private static void room() {
        com.sun.management.ThreadMXBean bean =
            (com.sun.management.ThreadMXBean) java.lang.management.ManagementFactory.getThreadMXBean();
        OneTimer x = new OneTimer();
        useAll(x);
        long before = bean.getCurrentThreadAllocatedBytes();
        for (int n = 0; n < 100; n++) {
            useAll(x);
        }
        long made = bean.getCurrentThreadAllocatedBytes() - before;
        check(made < 100 * 1000, "few bytes are made, but are " + made);
    }

    private static void useAll(OneTimer x) {
        x.blank();
        String text = "e09,r18,b12,s20;251";
        for (int i = 0; i < text.length(); i++) {
            x.letter(text.charAt(i));
        }
        x.fault();
        x.kitchen();
        for (int pot = 0; pot < 4; pot++) {
            x.boil(pot);
            x.tell(pot, 100);
            x.best(pot);
            x.sure(pot, 9);
            x.as(pot, 2);
        }
        x.plan(0);
        x.image();
        x.wind(9);
        x.take(0);
        x.restore();
        x.wound(0);
        x.evenings(30, 1, 0);
        x.digest();
        x.forget();
    }
}
