import java.lang.reflect.Constructor;
import java.lang.reflect.Field;
import java.lang.reflect.Method;
import java.lang.reflect.Modifier;
import java.nio.file.Files;
import java.nio.file.Path;
import java.util.ArrayList;
import java.util.Arrays;
import java.util.HashSet;
import java.util.List;
import java.util.Set;
import java.util.TreeSet;
import java.util.regex.Matcher;
import java.util.regex.Pattern;

/** The public face as the document lists it, and the plainest rules of LANGUAGE.md. */
public final class FaceTest {
    private static final Check CHECK = new Check("FaceTest");
    private static final String[] FACE = {
        "write(int, long)", "wipe()", "fault()", "form(int)", "unform(int)", "about(int, int, int)",
        "seats(int, int, int)", "stand(int, int)", "thing(int, boolean)", "at(int)", "force(int)", "votes(int, int)",
        "is(int)", "acts(int)", "which(int, int)", "why(int, int)", "act(int, int)", "reach(int)", "among(int, int)",
        "shortest(int, int)", "step(int, int, int)", "who(int)", "forGood(int)", "trap(int, int)", "hold(int, int)",
        "hangs(int, int)", "remedy(int, int)", "sure(int, int, int, int)", "begin(int, int, int, int)",
        "idle(int, int)", "roll(int, int)", "unroll()", "judge(boolean)", "keep(int)", "again(int)", "count(int)",
    };
    private static final String[] WORDS = {
        "throw", "throws", "try", "catch", "finally", "synchronized", "assert", "native", "volatile", "transient",
        "strictfp", "Exception", "Error", "Object", "System\\.out", "Thread", "Random", "hashCode", "\\w+Exact", "->",
        "::", "package", "protected",
    };

    public static void main(String[] args) throws Exception {
        face();
        constants();
        classesInside();
        noOtherName();
        words();
        CHECK.end();
    }

    private static void isTrue(String what, boolean is) {
        CHECK.due(what, is ? 1 : 0, 1);
    }

    private static void face() {
        isTrue("public and final", SelfLaw.class.getModifiers() == (Modifier.PUBLIC | Modifier.FINAL));
        Set<String> found = new TreeSet<>();
        for (Method method : SelfLaw.class.getDeclaredMethods()) {
            if (!Modifier.isPrivate(method.getModifiers())) {
                isTrue(method + " is public and of int", method.toString().startsWith("public int SelfLaw."));
                found.add(method.toString().replace("public int SelfLaw.", "").replace(",", ", "));
            }
        }
        isTrue("the methods of the document: " + found, found.equals(new TreeSet<>(Arrays.asList(FACE))));
        Constructor<?>[] constructors = SelfLaw.class.getDeclaredConstructors();
        CHECK.due("constructors", constructors.length, 1);
        isTrue("it is public, without parameters", constructors[0].toString().equals("public SelfLaw()"));
    }

    private static void constants() throws Exception {
        String[] names = {"UNKNOWN", "BAD", "LATE", "FULL", "NONE"};
        int[] values = {-1, -2, -3, -4, -9};
        for (int i = 0; i < names.length; i++) {
            Field field = SelfLaw.class.getDeclaredField(names[i]);
            isTrue(names[i], field.toString().equals("public static final int SelfLaw." + names[i]));
            CHECK.due(names[i], field.getInt(null), values[i]);
        }
        for (Field field : SelfLaw.class.getDeclaredFields()) {
            boolean ofFace = Arrays.asList(names).contains(field.getName());
            isTrue(field + " is private or of the face", ofFace || Modifier.isPrivate(field.getModifiers()));
        }
    }

    private static void classesInside() {
        Class<?>[] inside = SelfLaw.class.getDeclaredClasses();
        isTrue("at most twelve classes", inside.length + 1 <= 12);
        for (Class<?> one : inside) {
            isTrue(one + " is static", Modifier.isStatic(one.getModifiers()));
            isTrue(one + " is not public", !Modifier.isPublic(one.getModifiers()));
        }
        List<Class<?>> all = new ArrayList<>(Arrays.asList(inside));
        all.add(SelfLaw.class);
        for (Class<?> one : all) {
            int own = 0;
            for (Field field : one.getDeclaredFields()) {
                boolean isStatic = Modifier.isStatic(field.getModifiers());
                isTrue(field + " is final, if it is static", !isStatic || Modifier.isFinal(field.getModifiers()));
                own += isStatic ? 0 : 1;
            }
            isTrue(one + " has at most twenty fields", own <= 20);
            for (Method method : one.getDeclaredMethods()) {
                isTrue(method + " takes at most seven", method.getParameterCount() <= 7);
            }
        }
    }

    private static void noOtherName() {
        Set<String> names = new HashSet<>();
        for (String method : FACE) {
            names.add(method.substring(0, method.indexOf('(')));
        }
        for (Method method : SelfLaw.class.getDeclaredMethods()) {
            boolean isPrivate = Modifier.isPrivate(method.getModifiers());
            isTrue(method + " bears no name of the face", !isPrivate || !names.contains(method.getName()));
        }
        for (Class<?> inside : SelfLaw.class.getDeclaredClasses()) {
            for (Method method : inside.getDeclaredMethods()) {
                isTrue(method + " bears no name of the face", !names.contains(method.getName()));
            }
        }
    }

    private static void words() throws Exception {
        String source = Files.readString(Path.of("src/main/java/SelfLaw.java"));
        String code = source.replaceAll("(?s)/\\*.*?\\*/", "").replaceAll("//[^\n]*", "");
        for (String word : WORDS) {
            boolean letters = Character.isLetter(word.charAt(0)) || word.startsWith("\\w");
            Matcher found = Pattern.compile(letters ? "\\b" + word + "\\b" : Pattern.quote(word)).matcher(code);
            isTrue("no " + word + " in the class", !found.find());
        }
        Matcher imports = Pattern.compile("(?m)^import (.*);").matcher(code);
        while (imports.find()) {
            isTrue("import " + imports.group(1), imports.group(1).equals("java.util.Arrays"));
        }
        isTrue("signs 1 to 127", source.chars().allMatch(sign -> sign > 0 && sign < 128));
    }
}
