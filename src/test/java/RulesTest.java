import java.io.IOException;
import java.lang.reflect.Constructor;
import java.lang.reflect.Field;
import java.lang.reflect.Method;
import java.lang.reflect.Modifier;
import java.nio.file.Files;
import java.nio.file.Path;
import java.util.ArrayList;
import java.util.List;
import java.util.Map;
import java.util.Set;
import java.util.TreeMap;
import java.util.TreeSet;
import java.util.regex.Matcher;
import java.util.regex.Pattern;

/** The document's face, and those rules of LANGUAGE.md that a program can look for. */
public final class RulesTest {
    private static final Checks CHECK = new Checks("RulesTest");
    private static final String FACE = "feed(long) end(int) text() fault() prop(int,int) cue(int,int) rule(int) shift(int,int)"
        + " behind(int,int) beside(int) passes(int,int) plan(int,int,int) does(int,int,int) hit(int,int) wipe() miss(int)"
        + " slip(int) cuts(int) enough(int) speech(int) heard(int,int) masked() level(int,int,int) clips(int,int) lower(int)"
        + " carry(int,int) without(int,int) foreign(int,int) piece(int,int) whole() anew(int) moved(int) entry(int,int,int)"
        + " tear() joined(int,int) sheet(int,int,int) lay(int,int,int) read(int,int,int,int) torn() count(int)";

    public static void main(String[] args) throws IOException {
        theFace();
        String code = withoutCommentsAndTexts(Files.readString(Path.of("src/main/java/StepsByHand.java")));
        forbiddenWords(code);
        methodsStayShort(code);
        libraryThatIsListed(code);
        noCallMakesAnObject(code);
        callsAtMostEightDeep(code);
        CHECK.finish();
    }

    private static void theFace() {
        Class<?> it = StepsByHand.class;
        CHECK.isTrue("public and final", Modifier.isPublic(it.getModifiers()) && Modifier.isFinal(it.getModifiers()));
        Set<String> face = new TreeSet<>(Set.of(FACE.split(" ")));
        Set<String> found = new TreeSet<>();
        Set<String> names = new TreeSet<>();
        for (Method m : it.getDeclaredMethods()) {
            if (Modifier.isPrivate(m.getModifiers())) continue;
            StringBuilder sign = new StringBuilder(m.getName()).append('(');
            for (Class<?> type : m.getParameterTypes()) sign.append(sign.charAt(sign.length() - 1) == '(' ? "" : ",").append(type.getName());
            found.add(sign.append(')').toString());
            names.add(m.getName());
            CHECK.isTrue(m.getName() + " is public and answers an int", Modifier.isPublic(m.getModifiers()) && m.getReturnType() == int.class);
        }
        CHECK.isTrue("the face: " + found, found.equals(face));
        for (Constructor<?> c : it.getDeclaredConstructors()) CHECK.due("parameters of the constructor", c.getParameterCount(), 0);
        Set<String> constants = new TreeSet<>();
        for (Field f : it.getDeclaredFields()) {
            if (!Modifier.isPrivate(f.getModifiers())) constants.add(f.getName());
        }
        CHECK.isTrue("constants: " + constants, constants.equals(Set.of("BAD", "STATE", "FULL", "NONE")));
        CHECK.isTrue("classes", it.getDeclaredClasses().length < 12);
        for (Class<?> inside : it.getDeclaredClasses()) rulesOfClassInside(inside, names);
    }

    private static void rulesOfClassInside(Class<?> inside, Set<String> publicNames) {
        CHECK.isTrue(inside.getName() + " is static", Modifier.isStatic(inside.getModifiers()));
        int fields = 0;
        for (Field f : inside.getDeclaredFields()) {
            if (!Modifier.isStatic(f.getModifiers())) fields++;
            else CHECK.isTrue(f.getName() + " is final", Modifier.isFinal(f.getModifiers()));
        }
        CHECK.isTrue(inside.getName() + " has at most 20 fields", fields <= 20);
        for (Method m : inside.getDeclaredMethods()) {
            CHECK.isTrue(m.getName() + " bears no name of the face", !publicNames.contains(m.getName()));
            CHECK.isTrue(m.getName() + " takes at most seven", m.getParameterCount() <= 7);
        }
    }

    private static String withoutCommentsAndTexts(String source) {
        return source.replaceAll("(?s)/\\*.*?\\*/", "").replaceAll("//[^\n]*", "").replaceAll("\"[^\"\n]*\"", "\"\"");
    }

    private static void forbiddenWords(String code) {
        String[] words = {"throw", "throws", "try", "catch", "synchronized", "assert", "import", "package", "System", "Object",
            "Thread", "Random", "volatile", "native", "transient", "hashCode", "toString", "getClass", "Exact", "->", "::"};
        for (String word : words) {
            String edge = Character.isLetter(word.charAt(0)) ? "\\b" : "";
            CHECK.isTrue("no " + word, !Pattern.compile(edge + Pattern.quote(word) + edge).matcher(code).find());
        }
    }

    /** Heads and bodies of all methods, by where they begin. */
    private static List<String> methodsOf(String code) {
        List<String> methods = new ArrayList<>();
        Matcher m = Pattern.compile("(?m)^( {4}| {8})[a-z][^;={]*\\) \\{$").matcher(code);
        while (m.find()) methods.add(code.substring(m.start(), code.indexOf("\n" + m.group(1) + "}", m.start())));
        CHECK.isTrue("methods are found", methods.size() > 100);
        return methods;
    }

    private static void methodsStayShort(String code) {
        for (String method : methodsOf(code)) {
            String[] lines = method.split("\n");
            CHECK.isTrue("short enough: " + lines[0].trim(), lines.length <= 60);
        }
    }

    private static void libraryThatIsListed(String code) {
        Set<String> allowed = new TreeSet<>(Set.of("StepsByHand", "String", "Math", "Integer"));
        for (Class<?> inside : StepsByHand.class.getDeclaredClasses()) allowed.add(inside.getSimpleName());
        Matcher type = Pattern.compile("\\b[A-Z]\\w*[a-z]\\w*").matcher(code);
        while (type.find()) CHECK.isTrue(type.group() + " is one of " + allowed, allowed.contains(type.group()));
        Set<String> functions = Set.of("Math.max", "Math.min", "Math.abs", "Integer.bitCount");
        Matcher used = Pattern.compile("\\b(Math|Integer)\\s*\\.\\s*\\w+").matcher(code);
        while (used.find()) CHECK.isTrue(used.group() + " is one of " + functions, functions.contains(used.group()));
    }

    /** All calls of a run share one room, so what is made is made with the object, once. */
    private static void noCallMakesAnObject(String code) {
        for (String method : methodsOf(code)) {
            CHECK.isTrue("makes nothing: " + method.split("\n")[0].trim(), !Pattern.compile("\\bnew\\b|\\.clone\\b").matcher(method).find());
        }
    }

    private static void callsAtMostEightDeep(String code) {
        Map<String, Set<String>> calls = new TreeMap<>();
        Pattern name = Pattern.compile("\\b(\\w+)\\(");
        for (String method : methodsOf(code)) {
            Matcher m = name.matcher(method);
            if (!m.find()) continue;
            // Methods of two classes that bear one name are taken together: that can but deepen the way.
            Set<String> called = calls.computeIfAbsent(m.group(1), n -> new TreeSet<>());
            while (m.find()) called.add(m.group(1));
        }
        for (String from : FACE.split(" ")) {
            String call = from.substring(0, from.indexOf('('));
            int deep = depth(call, calls, new ArrayList<>());
            CHECK.isTrue(call + " goes " + deep + " deep", deep <= 8);
        }
    }

    private static int depth(String from, Map<String, Set<String>> calls, List<String> open) {
        // A method that is open already is recursion, which rule 8 bounds by itself.
        if (!calls.containsKey(from) || open.contains(from)) return 0;
        open.add(from);
        int deepest = 0;
        for (String called : calls.get(from)) deepest = Math.max(deepest, depth(called, calls, open));
        open.remove(open.size() - 1);
        return deepest + 1;
    }
}
