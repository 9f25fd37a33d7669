import java.lang.reflect.Constructor;
import java.lang.reflect.Field;
import java.lang.reflect.Method;
import java.lang.reflect.Modifier;
import java.nio.charset.StandardCharsets;
import java.nio.file.Files;
import java.nio.file.Path;
import java.util.ArrayList;
import java.util.LinkedHashMap;
import java.util.LinkedHashSet;
import java.util.List;
import java.util.Map;
import java.util.Set;
import java.util.TreeSet;
import java.util.regex.Matcher;
import java.util.regex.Pattern;

/** The face, and those rules of LANGUAGE.md that can be read off the text or the compiled classes. */
public final class LanguageTest {
    private static final String[] FACE = {
        "int bar(int,int,int)", "int strip(int)", "int line(int,int,int,int)", "int wear(int,int,int)", "int cut(int)",
        "int thing(int,int,int,int)", "int heat(int,int)", "int hang(int,int,int)", "int strike(int)",
        "int hook(int,int,boolean)", "int brick(int,int)", "int shift(int,int,int,int)", "int flag(int,int)",
        "int wave(int)", "int cue(int,int,int,int)", "int hush(int)", "int go(int)", "int undo()",
        "int tell(int,int,int,int,int)", "int forge(int,int,int)", "int clear()", "int check()", "int at(int,int)",
        "int of(int,int)", "int barOf(int,int)", "double load(int)", "long share(int)", "int strength(int)",
        "int even(int)", "int least()", "int stop(int,int)", "int cueOf(int,int)", "int told(int)", "int status(int)"};
    private static final String[] FORBIDDEN = {"->", "::", "\\bfinally\\b", "\\bsynchronized\\b", "\\bassert\\b",
        "\\btry\\b", "\\bcatch\\b", "\\bthrow\\b", "Exact\\(", "\\bFloat\\b", "\\bDouble\\b", "\\bSystem\\.(?!arraycopy)",
        "\\bThread\\b", "\\bRandom\\b", "\\bpackage\\b", "\\bstatic \\{", "\\bvar\\b", "\\bnative\\b", "\\bvolatile\\b",
        "\\bimport (?!java\\.util\\.Arrays;)", "\\bArrays\\.(?!copyOf|copyOfRange|fill)", "\\bprotected\\b", "\\[\\]\\[\\]"};
    private static final int MOST_LINES = 60;
    private static final int MOST_PARAMETERS = 7;
    private static final int MOST_FIELDS = 20;
    private static final int MOST_CLASSES = 12;
    private static final int DEEPEST = 8;
    private static int wrong = 0;

    public static void main(String[] args) throws Exception {
        String text = Files.readString(Path.of("src/main/java/RiggingLoft.java"), StandardCharsets.UTF_8);
        face();
        printed(Files.readString(Path.of("../shared/DOC.md"), StandardCharsets.UTF_8), text);
        words(withoutComments(text));
        classes();
        Map<String, String> bodies = methods(withoutComments(text));
        depths(bodies);
        System.out.println(wrong == 0 ? "the language is kept" : wrong + " rules are not kept");
        if (wrong != 0) {
            System.exit(1);
        }
    }

    private static void fault(String what) {
        wrong++;
        System.out.println(what);
    }

    private static String withoutComments(String text) {
        return text.replaceAll("(?s)/\\*.*?\\*/", "").replaceAll("//[^\n]*", "");
    }

    private static void face() {
        Set<String> due = new TreeSet<>(List.of(FACE));
        Set<String> got = new TreeSet<>();
        Set<String> open = new TreeSet<>();
        for (Method m : RiggingLoft.class.getDeclaredMethods()) {
            if (Modifier.isPublic(m.getModifiers())) {
                got.add(m.getReturnType() + " " + m.getName() + "(" + parameters(m) + ")");
                open.add(m.getName());
            } else if (!Modifier.isPrivate(m.getModifiers())) {
                fault("rule 1: " + m);
            }
        }
        if (!got.equals(due)) {
            fault("rule 1: the face is " + got);
        }
        for (Class<?> c : everyClass()) {
            for (Method m : c.getDeclaredMethods()) {
                if (!Modifier.isPublic(m.getModifiers()) && open.contains(m.getName())) {
                    fault("rule 1: the name of a public method: " + m);
                }
            }
        }
        if (!Modifier.isFinal(RiggingLoft.class.getModifiers())) {
            fault("rule 1: the class is not final");
        }
        for (Constructor<?> c : RiggingLoft.class.getDeclaredConstructors()) {
            if (!Modifier.isPublic(c.getModifiers()) || c.getParameterCount() != 0) {
                fault("rule 1: " + c);
            }
        }
        for (Field f : RiggingLoft.class.getDeclaredFields()) {
            boolean isFace = f.getName().equals("NONE") && Modifier.isPublic(f.getModifiers());
            if (!isFace && !Modifier.isPrivate(f.getModifiers())) {
                fault("rule 1: " + f);
            }
        }
    }

    /** Each line of the face stands in the text as the document prints it, and the text has no other public one. */
    private static void printed(String document, String text) {
        Set<String> due = publicLines(document.substring(document.indexOf("```java"), document.indexOf("## Terms")));
        Set<String> got = publicLines(text);
        if (due.isEmpty() || !got.equals(due)) {
            fault("rule 1: the document prints " + due + ", the text has " + got);
        }
    }

    private static Set<String> publicLines(String text) {
        Set<String> lines = new TreeSet<>();
        Matcher m = Pattern.compile("(?m)^ *public (.*?)(;| \\{)$").matcher(text);
        while (m.find()) {
            lines.add(m.group(1));
        }
        return lines;
    }

    private static String parameters(Method m) {
        List<String> names = new ArrayList<>();
        for (Class<?> c : m.getParameterTypes()) {
            names.add(c.getName());
        }
        return String.join(",", names);
    }

    private static List<Class<?>> everyClass() {
        List<Class<?>> all = new ArrayList<>(List.of(RiggingLoft.class.getDeclaredClasses()));
        all.add(RiggingLoft.class);
        return all;
    }

    private static void words(String code) {
        for (String word : FORBIDDEN) {
            Matcher m = Pattern.compile(word).matcher(code);
            if (m.find()) {
                fault("rules 2 to 6: the text has " + m.group());
            }
        }
        for (int i = 0; i < code.length(); i++) {
            if (code.charAt(i) > 126) {
                fault("rule 4: a sign above 126");
            }
        }
    }

    private static void classes() {
        if (everyClass().size() > MOST_CLASSES) {
            fault("rule 11: " + everyClass().size() + " classes");
        }
        for (Class<?> c : everyClass()) {
            int fields = 0;
            for (Field f : c.getDeclaredFields()) {
                boolean isStatic = Modifier.isStatic(f.getModifiers());
                fields += isStatic ? 0 : 1;
                if (isStatic && (!Modifier.isFinal(f.getModifiers())
                        || f.getType() != int.class && f.getType() != long.class)) {
                    fault("rule 5: " + f);
                }
            }
            if (fields > MOST_FIELDS) {
                fault("rule 11: " + c + " has " + fields + " fields");
            }
            if (c != RiggingLoft.class && !Modifier.isStatic(c.getModifiers())) {
                fault("rule 2: " + c + " is not static");
            }
            for (Method m : c.getDeclaredMethods()) {
                if (m.getParameterCount() > MOST_PARAMETERS) {
                    fault("rule 11: " + m);
                }
            }
        }
    }

    /** Every method and constructor by its name, with its body; methods of one name are taken as one. */
    private static Map<String, String> methods(String code) {
        Map<String, String> bodies = new LinkedHashMap<>();
        Matcher m = Pattern.compile("\n {4,8}(?:public |private |static |final )*(?:[\\w\\[\\]]+ )?(\\w+)\\([^()]*\\) \\{\n")
                .matcher(code);
        while (m.find()) {
            String start = m.group();
            String indent = start.substring(1, start.length() - start.stripLeading().length() + start.indexOf('\n'));
            int end = code.indexOf("\n" + indent + "}", m.end() - 1);
            String body = code.substring(m.end(), end);
            if (body.split("\n").length > MOST_LINES) {
                fault("rule 11: " + m.group(1) + " is long");
            }
            bodies.merge(m.group(1), body, String::concat);
        }
        return bodies;
    }

    private static void depths(Map<String, String> bodies) {
        for (String face : FACE) {
            String name = face.substring(face.indexOf(' ') + 1, face.indexOf('('));
            if (!bodies.containsKey(name)) {
                fault("the text of " + name + " was not found");
                continue;
            }
            List<String> way = deepest(name, bodies, new LinkedHashSet<>());
            if (way.size() > DEEPEST) {
                fault("rule 11: calls go " + way.size() + " deep: " + way);
            }
        }
    }

    private static List<String> deepest(String name, Map<String, String> bodies, LinkedHashSet<String> open) {
        List<String> best = new ArrayList<>();
        if (!open.add(name)) {
            fault("rule 8: " + open + " comes back to " + name);
            return best;
        }
        Matcher call = Pattern.compile("\\b(\\w+)\\(").matcher(bodies.getOrDefault(name, ""));
        Set<String> called = new LinkedHashSet<>();
        while (call.find()) {
            called.add(call.group(1));
        }
        called.removeAll(Set.of("if", "for", "while", "switch", "return"));
        for (String next : called) {
            List<String> way = deepest(next, bodies, open);
            best = way.size() > best.size() ? way : best;
        }
        open.remove(name);
        List<String> all = new ArrayList<>(List.of(name));
        all.addAll(best);
        return all;
    }
}
