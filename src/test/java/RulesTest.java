import java.io.IOException;
import java.lang.reflect.Constructor;
import java.lang.reflect.Field;
import java.lang.reflect.Method;
import java.lang.reflect.Modifier;
import java.nio.file.Files;
import java.nio.file.Path;
import java.util.Set;
import java.util.TreeSet;
import java.util.regex.Matcher;
import java.util.regex.Pattern;

/** The document's face, and those rules of LANGUAGE.md that a program can look for. */
public final class RulesTest {
    private static final Checks CHECK = new Checks("RulesTest");
    private static final String FACE = "feed(long) end(int) text() fault() prop(int,int) cue(int,int) rule(int) shift(int,int)"
        + " behind(int,int) beside(int) passes(int,int) plan(int,int,int) does(int,int,int) hit(int,int) wipe() miss(int)"
        + " slip(int) cuts(int) enough(int) speech(int) heard(int,int) masked() level(int,int,int) clips(int,int) lower(int)"
        + " carry(int,int) without(int,int) foreign(int,int) piece(int,int) whole() anew(int) moved(int) entry(int,int,int)"
        + " tear() joined(int,int) sheet(int,int,int) lay(int,int,int) read(int,int,int,int) torn() count(int)";

    public static void main(String[] args) throws IOException {
        theFace();
        String code = withoutCommentsAndTexts(Files.readString(Path.of("src/main/java/StepsByHand.java")));
        forbiddenWords(code);
        methodsStayShort(code);
        CHECK.finish();
    }

    private static void theFace() {
        Class<?> it = StepsByHand.class;
        CHECK.isTrue("public and final", Modifier.isPublic(it.getModifiers()) && Modifier.isFinal(it.getModifiers()));
        Set<String> face = new TreeSet<>(Set.of(FACE.split(" ")));
        Set<String> found = new TreeSet<>();
        Set<String> names = new TreeSet<>();
        for (Method m : it.getDeclaredMethods()) {
            if (Modifier.isPrivate(m.getModifiers())) continue;
            StringBuilder sign = new StringBuilder(m.getName()).append('(');
            for (Class<?> type : m.getParameterTypes()) sign.append(sign.charAt(sign.length() - 1) == '(' ? "" : ",").append(type.getName());
            found.add(sign.append(')').toString());
            names.add(m.getName());
            CHECK.isTrue(m.getName() + " is public and answers an int", Modifier.isPublic(m.getModifiers()) && m.getReturnType() == int.class);
        }
        CHECK.isTrue("the face: " + found, found.equals(face));
        for (Constructor<?> c : it.getDeclaredConstructors()) CHECK.due("parameters of the constructor", c.getParameterCount(), 0);
        Set<String> constants = new TreeSet<>();
        for (Field f : it.getDeclaredFields()) {
            if (!Modifier.isPrivate(f.getModifiers())) constants.add(f.getName());
        }
        CHECK.isTrue("constants: " + constants, constants.equals(Set.of("BAD", "STATE", "FULL", "NONE")));
        CHECK.isTrue("classes", it.getDeclaredClasses().length < 12);
        for (Class<?> inside : it.getDeclaredClasses()) rulesOfClassInside(inside, names);
    }

    private static void rulesOfClassInside(Class<?> inside, Set<String> publicNames) {
        CHECK.isTrue(inside.getName() + " is static", Modifier.isStatic(inside.getModifiers()));
        int fields = 0;
        for (Field f : inside.getDeclaredFields()) {
            if (!Modifier.isStatic(f.getModifiers())) fields++;
            else CHECK.isTrue(f.getName() + " is final", Modifier.isFinal(f.getModifiers()));
        }
        CHECK.isTrue(inside.getName() + " has at most 20 fields", fields <= 20);
        for (Method m : inside.getDeclaredMethods()) {
            CHECK.isTrue(m.getName() + " bears no name of the face", !publicNames.contains(m.getName()));
            CHECK.isTrue(m.getName() + " takes at most seven", m.getParameterCount() <= 7);
        }
    }

    private static String withoutCommentsAndTexts(String source) {
        return source.replaceAll("(?s)/\\*.*?\\*/", "").replaceAll("//[^\n]*", "").replaceAll("\"[^\"\n]*\"", "\"\"");
    }

    private static void forbiddenWords(String code) {
        String[] words = {"throw", "throws", "try", "catch", "synchronized", "assert", "import", "package", "System", "Object",
            "Thread", "Random", "volatile", "native", "transient", "hashCode", "toString", "getClass", "Exact", "->", "::"};
        for (String word : words) {
            String edge = Character.isLetter(word.charAt(0)) ? "\\b" : "";
            CHECK.isTrue("no " + word, !Pattern.compile(edge + Pattern.quote(word) + edge).matcher(code).find());
        }
    }

    private static void methodsStayShort(String code) {
        Matcher m = Pattern.compile("(?m)^( {4}| {8})[a-z][^;={]*\\) \\{$").matcher(code);
        int found = 0;
        while (m.find()) {
            String end = "\n" + m.group(1) + "}";
            int lines = code.substring(m.start(), code.indexOf(end, m.start())).split("\n").length;
            CHECK.isTrue("short enough: " + m.group().trim(), lines <= 60);
            found++;
        }
        CHECK.isTrue("methods are found", found > 100);
    }
}
