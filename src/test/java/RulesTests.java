import java.io.IOException;
import java.lang.reflect.Constructor;
import java.lang.reflect.Field;
import java.lang.reflect.Method;
import java.lang.reflect.Modifier;
import java.nio.file.Files;
import java.nio.file.Path;
import java.util.Set;
import java.util.TreeSet;
import java.util.regex.Matcher;
import java.util.regex.Pattern;

/** The face of the document, and those rules of LANGUAGE.md that can be seen without reading the code; run from the project's folder. */
public final class RulesTests {
    private static final String FACE = "row 2,lay 3,at 2,tear 1,copy 5,mean 1,text 2,put 3,fault 1,town 1,one 2,thing 2,mark 2,"
        + "want 3,tell 3,say 2,undo 1,can 1,knows 1,dusk 0,keep 1,on 1,best 1,plays 3,sure 2,fewest 3,match 1,safe 2,price 1,"
        + "rounds 0,said 2,firsts 2,judge 1,odds 3,lots 2,asked 0,upper 0,lower 0,count 1,finding 0,findings 1,digest 0";
    private static final Set<String> LONGS = Set.of("upper", "lower", "digest");
    private static final String[] FORBIDDEN = {
        "throw", "throws", "try", "catch", "synchronized", "assert", "->\\s*\\{?\\s*throw", "::", "volatile", "native",
        "Object", "HashMap", "Random", "currentTimeMillis", "nanoTime", "File", "Thread", "\\w+Exact", "hashCode", "toString",
        "protected", "import\\s+(?!java\\.util\\.Arrays;)",
    };
    private static int wrong = 0;

    public static void main(String[] args) throws IOException {
        face();
        nested();
        source(Files.readString(Path.of("src/main/java/SecondWish.java")));
        System.out.println(wrong == 0 ? "the rules are kept" : wrong + " rules are broken");
        if (wrong != 0) {
            System.exit(1);
        }
    }

    private static void check(boolean right, String what) {
        if (!right) {
            wrong++;
            System.out.println(what);
        }
    }

    private static void face() {
        Class<?> c = SecondWish.class;
        check(Modifier.isPublic(c.getModifiers()) && Modifier.isFinal(c.getModifiers()), "the class is public and final");
        Set<String> due = new TreeSet<>(Set.of(FACE.split(",")));
        Set<String> found = new TreeSet<>();
        Set<String> names = new TreeSet<>();
        for (Method m : c.getDeclaredMethods()) {
            if (Modifier.isPublic(m.getModifiers())) {
                found.add(m.getName() + " " + m.getParameterCount());
                names.add(m.getName());
                Class<?> answer = LONGS.contains(m.getName()) ? long.class : int.class;
                check(m.getReturnType() == answer, m + " answers another type");
            } else {
                check(Modifier.isPrivate(m.getModifiers()), m + " is neither public nor private");
            }
        }
        check(due.equals(found), "the face is " + found + ", due is " + due);
        for (Method m : c.getDeclaredMethods()) {
            check(Modifier.isPublic(m.getModifiers()) || !names.contains(m.getName()), m + " bears a public name");
        }
        Set<String> constants = new TreeSet<>();
        for (Field f : c.getDeclaredFields()) {
            if (Modifier.isPublic(f.getModifiers())) {
                constants.add(f.getName());
            } else {
                check(Modifier.isPrivate(f.getModifiers()), f + " is neither public nor private");
            }
        }
        check(constants.equals(new TreeSet<>(Set.of("BAD", "FULL", "FINDING", "STATE", "SPENT", "NONE"))), "constants " + constants);
        Constructor<?>[] constructors = c.getDeclaredConstructors();
        check(constructors.length == 1 && constructors[0].getParameterCount() == 0, "one constructor without arguments");
    }

    private static void nested() {
        Class<?>[] nested = SecondWish.class.getDeclaredClasses();
        check(nested.length <= 11, "too many classes");
        Set<String> names = new TreeSet<>();
        for (Method m : SecondWish.class.getMethods()) {
            names.add(m.getName());
        }
        for (Class<?> c : nested) {
            check(Modifier.isStatic(c.getModifiers()), c + " is not static");
            for (Method m : c.getDeclaredMethods()) {
                check(m.getParameterCount() <= 7, m + " takes too many arguments");
                check(!names.contains(m.getName()), m + " bears a public name");
            }
            int fields = 0;
            for (Field f : c.getDeclaredFields()) {
                boolean isStatic = Modifier.isStatic(f.getModifiers());
                fields += isStatic ? 0 : 1;
                check(!isStatic || Modifier.isFinal(f.getModifiers()), f + " is static and not final");
            }
            check(fields <= 20, c + " has too many fields");
        }
    }

    private static void source(String text) {
        String code = text.replaceAll("(?s)/\\*.*?\\*/", "").replaceAll("//[^\n]*", "");
        for (String word : FORBIDDEN) {
            String bounded = Character.isLetter(word.charAt(0)) || word.startsWith("\\w") ? "\\b" + word : word;
            bounded = Character.isLetter(word.charAt(word.length() - 1)) ? bounded + "\\b" : bounded;
            Matcher m = Pattern.compile(bounded).matcher(code);
            check(!m.find(), "the source has " + word);
        }
        for (char sign : text.toCharArray()) {
            check(sign == '\n' || sign >= 32 && sign < 127, "a sign that is none of ASCII: " + (int) sign);
        }
        check(!code.contains("package "), "a package line");
        String[] lines = text.split("\n");
        int start = 0;
        for (int i = 0; i < lines.length; i++) {
            String line = lines[i];
            if (line.matches(" {4}( {4})?[\\w\\[\\]<> ]+\\([^;]*\\) \\{")) {
                start = i;
            }
            if (line.matches(" {4}( {4})?\\}")) {
                check(i - start < 60 || line.startsWith("    }") && line.length() == 5, "a long method ahead of line " + (i + 1));
            }
        }
    }
}
