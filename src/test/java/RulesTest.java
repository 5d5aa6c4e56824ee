import java.io.IOException;
import java.lang.management.ManagementFactory;
import java.lang.reflect.Constructor;
import java.lang.reflect.Field;
import java.lang.reflect.Method;
import java.lang.reflect.Modifier;
import java.nio.file.Files;
import java.nio.file.Path;
import java.util.TreeSet;

/** The face, the rules of LANGUAGE.md that can be looked up, and that calls make no objects. */
public final class RulesTest {
    private static final Due DUE = new Due("RulesTest");
    private static final String[] FACE = {
        "feed(int,int,int,int,int)int", "end(int)int", "cake()int", "fault(int)int", "piece(int,int)int",
        "guest(int,int)int", "worth(int,int)int", "slip(int,int,int)int", "cut(int,int,int)int", "give(int,int)int",
        "back(int)int", "exchange(int,int)int", "undo()boolean", "redo()boolean", "feeds(int)int", "served()int",
        "next(int)int", "envies(int)int", "quarrel()int", "calm(int)int", "halve(int,int,int,int)int",
        "share(int,int,int)int", "picks()int", "order()int", "grid(int,int,int)int", "ways(int,int)int",
        "most(int,int)int", "room(int)int", "best(int)int", "where(int,int,int)int", "hungry()int", "law(int)int",
        "left()int", "iced(int)int", "come(int,int)int", "lies(int)int", "sized(int,boolean)int",
        "rimmed(int,boolean)int", "untell(int)boolean", "later(int)int", "fits(int)int", "sure(int,int)int",
        "ask(int,int)int", "image(int)int", "restore(int)int", "about(int)int"};

    public static void main(String[] args) throws IOException {
        face();
        words();
        room();
        DUE.finish();
    }

    private static String told(Method method) {
        StringBuilder all = new StringBuilder(method.getName()).append('(');
        for (Class<?> type : method.getParameterTypes()) {
            all.append(all.charAt(all.length() - 1) == '(' ? "" : ",").append(type.getName());
        }
        return all.append(')').append(method.getReturnType().getName()).toString();
    }

    private static void face() {
        TreeSet<String> want = new TreeSet<>();
        TreeSet<String> names = new TreeSet<>();
        for (String method : FACE) {
            want.add(method);
            names.add(method.substring(0, method.indexOf('(')));
        }
        TreeSet<String> got = new TreeSet<>();
        for (Method method : ThreeTiers.class.getDeclaredMethods()) {
            if (Modifier.isPrivate(method.getModifiers())) {
                DUE.is("private " + method.getName() + " named as the face", names.contains(method.getName()), false);
            } else {
                got.add(told(method));
            }
        }
        DUE.is("the face " + got, got.equals(want), true);
        DUE.is("final", Modifier.isFinal(ThreeTiers.class.getModifiers()), true);
        for (Field field : ThreeTiers.class.getDeclaredFields()) {
            DUE.is("field " + field.getName(), field.getName().equals("NONE") || Modifier.isPrivate(field.getModifiers()), true);
        }
        DUE.is("constructors", ThreeTiers.class.getDeclaredConstructors().length, 1);
        for (Constructor<?> made : ThreeTiers.class.getDeclaredConstructors()) {
            DUE.is("constructor", made.getParameterCount() == 0 && Modifier.isPublic(made.getModifiers()), true);
        }
        DUE.is("NONE", ThreeTiers.NONE, -1);
        int classes = 1;
        for (Class<?> inside : ThreeTiers.class.getDeclaredClasses()) {
            classes++;
            DUE.is(inside.getName() + " is static", Modifier.isStatic(inside.getModifiers()), true);
            int fields = 0;
            for (Field field : inside.getDeclaredFields()) {
                boolean fixed = Modifier.isStatic(field.getModifiers()) && Modifier.isFinal(field.getModifiers());
                DUE.is(field + " is no static state", fixed || !Modifier.isStatic(field.getModifiers()), true);
                fields += fixed ? 0 : 1;
            }
            DUE.is(inside.getName() + " has few fields", fields <= 20, true);
            for (Method method : inside.getDeclaredMethods()) {
                DUE.is(told(method) + " has few parameters", method.getParameterCount() <= 7, true);
                DUE.is(told(method) + " named as the face", names.contains(method.getName()), false);
            }
        }
        DUE.is("few classes", classes <= 12, true);
    }

    private static void words() throws IOException {
        Path path = Path.of("src/main/java/ThreeTiers.java");
        DUE.is("the source is there", Files.exists(path), true);
        String source = Files.exists(path) ? Files.readString(path) : "";
        StringBuilder bare = new StringBuilder();
        for (String line : source.split("\n")) {
            String kept = line.strip();
            boolean comment = kept.startsWith("//") || kept.startsWith("/*") || kept.startsWith("*");
            bare.append(comment ? "" : kept).append('\n');
        }
        String[] forbidden = {"throw", "try", "catch", "synchronized", "assert", "import", "package", "Exact",
            "System", "Object", "String.", "->", "::", "record", "enum", "@", "instanceof", "while", "do"};
        for (String word : forbidden) {
            String pattern = Character.isLetter(word.charAt(0)) ? "\\b" + word.replace(".", "\\.") : word;
            String end = Character.isLetter(word.charAt(word.length() - 1)) ? "\\b" : "";
            boolean there = java.util.regex.Pattern.compile(pattern + end).matcher(bare).find();
            DUE.is("the source says " + word, there, false);
        }
        for (int i = 0; i < source.length(); i++) {
            if (source.charAt(i) > 126 || source.charAt(i) == '\t') {
                DUE.is("sign at " + i, source.charAt(i), ' ');
            }
        }
        methodLengths(source);
    }

    private static void methodLengths(String source) {
        String[] lines = source.split("\n");
        int start = 0;
        for (int i = 0; i < lines.length; i++) {
            boolean opens = lines[i].matches(" {4}( {4})?[a-zA-Z].*\\) \\{");
            if (opens) {
                start = i;
            }
            if (lines[i].matches(" {4}( {4})?\\}") && start > 0 && lines[start].indexOf(lines[start].strip()) == lines[i].indexOf('}')) {
                DUE.is("lines of " + lines[start].strip(), i - start + 1 <= 60, true);
                start = 0;
            }
        }
    }

    private static void room() {
        com.sun.management.ThreadMXBean bean = (com.sun.management.ThreadMXBean) ManagementFactory.getThreadMXBean();
        long id = Thread.currentThread().getId();
        ThreeTiers x = Due.cake("tier a 8 by 8 high 1;guest a wants 1;guest b wants 5;worth area*(sweet+1);slip 30;");
        // The first round loads classes, which is no doing of the calls.
        int sum = callAll(x) + x.cake();
        long before = bean.getThreadAllocatedBytes(id);
        sum += callAll(x) + x.cake();
        long made = bean.getThreadAllocatedBytes(id) - before;
        DUE.is("bytes made by 231 calls: " + made + " (" + sum + ")", made < 1024, true);
    }

    private static int callAll(ThreeTiers x) {
        int sum = 0;
        for (int i = 0; i < 230; i++) {
            sum += AnyCall.make(x, i % AnyCall.CALLS, i % 7, i % 3, i % 5, 0);
        }
        return sum;
    }
}
