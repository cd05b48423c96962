import java.lang.reflect.Constructor;
import java.lang.reflect.Field;
import java.lang.reflect.Member;
import java.lang.reflect.Method;
import java.lang.reflect.Modifier;
import java.nio.file.Files;
import java.nio.file.Path;
import java.util.ArrayList;
import java.util.List;
import java.util.TreeSet;
import java.util.regex.Matcher;
import java.util.regex.Pattern;

/** The public face is the document's and no more; the source is free of words that the language rules leave out. */
public final class FactSharesFace {
    private static final String FACE = "FactShares() NONE UNKNOWN OUTSIDE ROOM share/1 act/4 fact/3 end/2 workers/1 lose/2"
        + " seed/1 set/2 run/1 told/1 doer/1 clear/0";
    private static final String LEFT_OUT = "throw throws try catch synchronized assert import package volatile System Object"
        + " hashCode toString protected Exact NaN";

    private static int wrong = 0;

    private static void tell(String fault) {
        wrong++;
        System.out.println(fault);
    }

    public static void main(String[] args) throws Exception {
        testFace();
        testConstants();
        testSource();
        System.out.println(wrong == 0 ? "the face is as due" : wrong + " faults");
        if (wrong != 0) {
            System.exit(1);
        }
    }

    private static void testFace() {
        List<String> seen = new ArrayList<>();
        List<String> privates = new ArrayList<>();
        for (Constructor<?> c : FactShares.class.getDeclaredConstructors()) {
            note(c, "FactShares()", seen, privates);
        }
        for (Field f : FactShares.class.getDeclaredFields()) {
            note(f, f.getName(), seen, privates);
            // Rule 5: no static state.
            if (Modifier.isStatic(f.getModifiers()) && !Modifier.isFinal(f.getModifiers())) {
                tell("static and not final: " + f.getName());
            }
            if (Modifier.isPublic(f.getModifiers()) && f.getType() != int.class) {
                tell(f.getName() + " is no int");
            }
        }
        for (Method m : FactShares.class.getDeclaredMethods()) {
            note(m, m.getName() + "/" + m.getParameterCount(), seen, privates);
            if (Modifier.isPublic(m.getModifiers())) {
                testMethod(m);
            }
        }
        TreeSet<String> due = new TreeSet<>(List.of(FACE.split(" ")));
        if (!new TreeSet<>(seen).equals(due)) {
            tell("the face is " + new TreeSet<>(seen) + ", due is " + due);
        }
        for (String name : privates) {
            for (String open : due) {
                if (open.contains("/") && name.startsWith(open.substring(0, open.indexOf('/') + 1))) {
                    tell("a private method bears the name of a public one: " + name);
                }
            }
        }
        if (!Modifier.isFinal(FactShares.class.getModifiers()) || !Modifier.isPublic(FactShares.class.getModifiers())) {
            tell("the class is not public and final");
        }
        for (Class<?> inside : FactShares.class.getDeclaredClasses()) {
            if (!Modifier.isStatic(inside.getModifiers())) {
                tell("not static: " + inside);
            }
        }
    }

    private static void testMethod(Method m) {
        if (m.getReturnType() != int.class || Modifier.isStatic(m.getModifiers())) {
            tell(m.getName() + " answers no int, or is static");
        }
        for (Class<?> type : m.getParameterTypes()) {
            if (type != int.class) {
                tell(m.getName() + " takes a " + type);
            }
        }
    }

    private static void note(Member member, String name, List<String> seen, List<String> privates) {
        if (Modifier.isPrivate(member.getModifiers())) {
            privates.add(name);
        } else {
            seen.add(name);
            if (!Modifier.isPublic(member.getModifiers())) {
                tell("neither public nor private: " + name);
            }
        }
    }

    private static void testConstants() {
        if (FactShares.NONE != -2000000 || FactShares.UNKNOWN != -2000001
            || FactShares.OUTSIDE != -2000002 || FactShares.ROOM != -2000003) {
            tell("a constant is not as due");
        }
    }

    private static void testSource() throws Exception {
        String source = Files.readString(Path.of("src/main/java/FactShares.java")).replaceAll("(?s)/\\*.*?\\*/|//[^\n]*", "");
        for (String word : LEFT_OUT.split(" ")) {
            Matcher found = Pattern.compile("\\b" + word + "\\b").matcher(source);
            if (found.find()) {
                tell("the source has the word " + word);
            }
        }
        if (source.contains("->") || source.contains("::")) {
            tell("the source has a lambda, an arrow or a method reference");
        }
    }
}
