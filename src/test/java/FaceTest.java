import java.io.IOException;
import java.lang.reflect.Array;
import java.lang.reflect.Field;
import java.lang.reflect.Method;
import java.lang.reflect.Modifier;
import java.nio.file.Files;
import java.nio.file.Path;
import java.util.ArrayDeque;
import java.util.Collections;
import java.util.Deque;
import java.util.IdentityHashMap;
import java.util.Set;
import java.util.TreeSet;
import java.util.regex.Matcher;
import java.util.regex.Pattern;

/** The public face, and the rules of LANGUAGE.md that can be seen in the source's words. */
public final class FaceTest {
    private static final String METHODS = "back()|best(int,int)|council(int,int,int)|count(int)|drop()|end()|fault()|finish()|"
        + "finishing(int)|forget()|guessed(int)|keep()|lay()|learn(int,int)|lure(int,int)|mayor(int,int)|safe(int,int)|said(int)|"
        + "say(int)|seen(int,int)|sitting(int)|undo()|ways(int,int)|wipe()|word(int,int)|write(int)";
    private static final String[] FORBIDDEN = {"\\bthrow\\b", "\\bthrows\\b", "\\btry\\b", "\\bcatch\\b", "\\bsynchronized\\b",
        "\\bassert\\b", "->", "::", "\\bimport\\b", "\\bpackage\\b", "\\bprotected\\b", "\\bSystem\\.(?!arraycopy)", "\\bnew \\w+\\([^)]*\\) *\\{",
        "\\bstatic *\\{", "Exact\\b", "\\b(equals|hashCode|toString)\\("};

    /** A constructor has a name, but no type ahead of it. */
    private static final String CONSTRUCTOR = " +(public )?[A-Z]\\w*\\(.*";
    /** So few that thousands of objects fit into the one room of a run. */
    private static final int MOST_MADE = 200, MOST_HELD = 3000;

    private FaceTest() {
    }

    public static void main(String[] args) throws IOException, IllegalAccessException {
        face();
        String source = Files.readString(Path.of("src/main/java/TwoMayors.java"));
        String code = source.replaceAll("(?s)/\\*.*?\\*/", "").replaceAll("//[^\n]*", "").replaceAll("\"[^\"\n]*\"", "\"\"");
        words(code);
        methods(code);
        room();
        Check.close();
    }

    private static void face() {
        Class<?> type = TwoMayors.class;
        due("the class is public and final", type.getModifiers() == (Modifier.PUBLIC | Modifier.FINAL));
        due("one public constructor", type.getDeclaredConstructors().length == 1 && type.getConstructors().length == 1
            && type.getConstructors()[0].getParameterCount() == 0);
        StringBuilder shown = new StringBuilder();
        TreeSet<String> seen = new TreeSet<>();
        TreeSet<String> open = new TreeSet<>();
        TreeSet<String> hidden = new TreeSet<>();
        for (Method m : type.getDeclaredMethods()) {
            if (Modifier.isPrivate(m.getModifiers())) {
                hidden.add(m.getName());
                continue;
            }
            StringBuilder call = new StringBuilder(m.getName()).append('(');
            for (int i = 0; i < m.getParameterCount(); i++) {
                call.append(i == 0 ? "" : ",").append(m.getParameterTypes()[i].getName());
            }
            seen.add(call.append(')').toString());
            open.add(m.getName());
            due(m + " is public, no static one, and answers an int",
                m.getModifiers() == Modifier.PUBLIC && m.getReturnType() == int.class);
        }
        for (String call : seen) {
            shown.append(shown.length() == 0 ? "" : "|").append(call);
        }
        due("the methods are " + shown, shown.toString().equals(METHODS));
        hidden.retainAll(open);
        due("private methods named as public ones: " + hidden, hidden.isEmpty());
        TreeSet<String> constants = new TreeSet<>();
        for (Field f : type.getDeclaredFields()) {
            if (!Modifier.isPrivate(f.getModifiers())) {
                constants.add(f.getName());
            }
        }
        due("the constants are " + constants, constants.toString().equals("[BAD, FULL, NO, NONE]"));
        due("their numbers", TwoMayors.BAD == -1 && TwoMayors.NO == -2 && TwoMayors.FULL == -3 && TwoMayors.NONE == -4);
        due("at most 12 classes", type.getDeclaredClasses().length <= 11);
        for (Class<?> inside : type.getDeclaredClasses()) {
            due(inside + " is private and static", Modifier.isPrivate(inside.getModifiers()) && Modifier.isStatic(inside.getModifiers()));
            for (Method m : inside.getDeclaredMethods()) {
                due(m + " is not named as a public one", !open.contains(m.getName()));
            }
            int fields = 0;
            for (Field f : inside.getDeclaredFields()) {
                fields += Modifier.isStatic(f.getModifiers()) ? 0 : 1;
            }
            due(inside + " has 20 fields at most", fields <= 20);
        }
    }

    private static void words(String code) {
        for (String forbidden : FORBIDDEN) {
            Matcher m = Pattern.compile(forbidden).matcher(code);
            due("without " + forbidden, !m.find());
        }
    }

    private static void methods(String code) {
        String[] lines = code.split("\n");
        int start = -1;
        String indent = "";
        int found = 0;
        for (int i = 0; i < lines.length; i++) {
            Matcher head = Pattern.compile("^( {4}| {8})(?!.*\\bclass\\b)\\S[^;=]*\\(([^)]*)\\) \\{$").matcher(lines[i]);
            if (start < 0 && head.find()) {
                start = i;
                indent = head.group(1);
                found++;
                due(lines[i].trim() + " takes 7 at most", head.group(2).split(",").length <= 7);
            } else if (start >= 0 && lines[i].matches(".*\\bnew\\b.*")) {
                due(lines[start].trim() + " makes none, as calls may be many: " + lines[i].trim(), lines[start].matches(CONSTRUCTOR));
            } else if (start >= 0 && lines[i].equals(indent + "}")) {
                due(lines[start].trim() + " has 60 lines at most", i - start < 60);
                start = -1;
            }
        }
        due("methods were found: " + found, found > 60);
    }

    /** What an object holds; as only constructors make anything, it is all that is ever made for it. */
    private static void room() throws IllegalAccessException {
        Set<Object> met = Collections.newSetFromMap(new IdentityHashMap<>());
        Deque<Object> ahead = new ArrayDeque<>();
        ahead.add(new TwoMayors());
        int held = 0;
        while (!ahead.isEmpty()) {
            Object one = ahead.remove();
            if (met.add(one)) {
                held += parts(one, ahead);
            }
        }
        due("an object is made of " + met.size() + " objects and arrays", met.size() > 1 && met.size() <= MOST_MADE);
        due("an object holds " + held + " fields and elements", held > 1 && held <= MOST_HELD);
    }

    private static int parts(Object one, Deque<Object> ahead) throws IllegalAccessException {
        if (one.getClass().isArray()) {
            int length = Array.getLength(one);
            for (int i = 0; i < length && !one.getClass().getComponentType().isPrimitive(); i++) {
                ahead.add(Array.get(one, i));
            }
            return length;
        }
        int held = 0;
        for (Field f : one.getClass().getDeclaredFields()) {
            if (!Modifier.isStatic(f.getModifiers())) {
                held++;
                f.setAccessible(true);
                if (!f.getType().isPrimitive()) {
                    ahead.add(f.get(one));
                }
            }
        }
        return held;
    }

    private static void due(String what, boolean so) {
        Check.due(what, so ? 1 : 0, 1);
    }
}
