import java.io.IOException;
import java.lang.reflect.Constructor;
import java.lang.reflect.Field;
import java.lang.reflect.Member;
import java.lang.reflect.Method;
import java.lang.reflect.Modifier;
import java.nio.file.Files;
import java.nio.file.Path;
import java.util.Set;
import java.util.TreeSet;
import java.util.regex.Matcher;
import java.util.regex.Pattern;

/** The face of the document, and of LANGUAGE.md what can be seen from outside or in the text of the class. */
public final class RulesTest {
    private static final Path SOURCE = Path.of("src/main/java/FourLodgers.java");
    private static final String[] FACE = {"letter(int)int", "blank()int", "fault()int", "sea()int", "lodger(int,int)int",
        "as(int,int)int", "ship(int,int)int", "cell(int,int)int", "sail(int,int)int", "day()int", "ail(int,int)int",
        "let(int,int)int", "hire()int", "can(int,int,int)int", "soon(int,int,int)int", "meet(int,int)int",
        "needed(int,int)int", "brick(int,int)int", "aside(int,int)int", "see(int,int,boolean)int", "forget()int",
        "drifts(int,int,int)int", "image()int", "restore()int", "count(int)int", "digest()long"};
    private static final String[] CONSTANTS = {"NONE", "UNKNOWN", "OUTSIDE", "STATE", "FULL"};
    private static final Due due = new Due("RulesTest");

    public static void main(String[] args) throws IOException {
        constants();
        face();
        classesInside();
        text(withoutComments(Files.readString(SOURCE)));
        due.end();
    }

    private static void constants() {
        due.is("NONE", FourLodgers.NONE, -1);
        due.is("UNKNOWN", FourLodgers.UNKNOWN, -101);
        due.is("OUTSIDE", FourLodgers.OUTSIDE, -102);
        due.is("STATE", FourLodgers.STATE, -103);
        due.is("FULL", FourLodgers.FULL, -104);
    }

    private static void face() {
        Set<String> seen = new TreeSet<>();
        Set<String> names = new TreeSet<>();
        for (Method method : FourLodgers.class.getDeclaredMethods()) {
            if (!Modifier.isPrivate(method.getModifiers())) {
                due.isTrue("public: " + method, Modifier.isPublic(method.getModifiers()));
                seen.add(signature(method));
                names.add(method.getName());
            }
        }
        due.isTrue("the methods: " + seen, seen.equals(new TreeSet<>(Set.of(FACE))));
        for (Method method : FourLodgers.class.getDeclaredMethods()) {
            due.isTrue("no private one has its name: " + method,
                !Modifier.isPrivate(method.getModifiers()) || !names.contains(method.getName()));
        }
        Set<String> fields = new TreeSet<>();
        for (Field field : FourLodgers.class.getDeclaredFields()) {
            if (!Modifier.isPrivate(field.getModifiers())) {
                fields.add(field.getName());
            }
        }
        due.isTrue("the constants: " + fields, fields.equals(new TreeSet<>(Set.of(CONSTANTS))));
        Constructor<?>[] constructors = FourLodgers.class.getDeclaredConstructors();
        due.isTrue("one constructor, public, without a parameter", constructors.length == 1
            && Modifier.isPublic(constructors[0].getModifiers()) && constructors[0].getParameterCount() == 0);
        due.isTrue("final", Modifier.isFinal(FourLodgers.class.getModifiers()));
    }

    private static String signature(Method method) {
        StringBuilder text = new StringBuilder(method.getName()).append('(');
        for (Class<?> type : method.getParameterTypes()) {
            text.append(text.charAt(text.length() - 1) == '(' ? "" : ",").append(type.getName());
        }
        return text.append(')').append(method.getReturnType().getName()).toString();
    }

    private static void classesInside() {
        Class<?>[] inside = FourLodgers.class.getDeclaredClasses();
        due.isTrue("at most twelve classes", inside.length <= 12);
        noStateIsStatic(FourLodgers.class);
        for (Class<?> one : inside) {
            due.isTrue("static: " + one, Modifier.isStatic(one.getModifiers()));
            due.isTrue("not public: " + one, !Modifier.isPublic(one.getModifiers()));
            due.isTrue("not protected: " + one, !Modifier.isProtected(one.getModifiers()));
            noStateIsStatic(one);
        }
    }

    private static void noStateIsStatic(Class<?> one) {
        int own = 0;
        for (Field field : one.getDeclaredFields()) {
            due.isTrue("static is final: " + field, !isStatic(field) || Modifier.isFinal(field.getModifiers()));
            own += isStatic(field) ? 0 : 1;
        }
        due.isTrue("at most twenty fields: " + one, own <= 20);
    }

    private static boolean isStatic(Member member) {
        return Modifier.isStatic(member.getModifiers());
    }

    private static void text(String source) {
        String[] banned = {"\\bthrow\\b", "\\btry\\b", "\\bcatch\\b", "\\bsynchronized\\b", "\\bassert\\b", "->", "::",
            "\\bstatic\\s*\\{", "Exact\\b", "\\bhashCode\\b", "\\btoString\\b", "\\bpackage\\b", "\\bimport\\b", "\\bvar\\b", "\\bSystem\\.(?!arraycopy)"};
        for (String word : banned) {
            due.isTrue("not in the class: " + word, !Pattern.compile(word).matcher(source).find());
        }
        // an object that a call makes is never given back in the one room of a run
        due.is("what is made, in constructors alone", count("\\bnew\\b", source), inConstructors(source));
        due.is("copies made by the library", count("\\.clone\\(|\\bcopyOf|\\btoCharArray\\b|\\bsubstring\\b", source), 0);
        due.is("texts joined", count("\"\\s*\\+|\\+\\s*\"", source), 0);
    }

    private static int count(String pattern, String source) {
        Matcher found = Pattern.compile(pattern).matcher(source);
        int times = 0;
        while (found.find()) {
            times++;
        }
        return times;
    }

    private static int inConstructors(String source) {
        Matcher bodies = Pattern.compile("(?m)^ +(?:public )?(?:FourLodgers|Page|Draft|Chart|Moment|Pilot)\\(\\) \\{([^}]*)\\}").matcher(source);
        int rows = 0;
        while (bodies.find()) {
            rows += count("\\bnew\\b", bodies.group(1));
        }
        return rows;
    }

    private static String withoutComments(String source) {
        return source.replaceAll("(?s)/\\*.*?\\*/", " ").replaceAll("//[^\\n]*", " ");
    }
}
