import java.lang.reflect.Field;
import java.lang.reflect.Method;
import java.lang.reflect.Modifier;
import java.nio.charset.StandardCharsets;
import java.nio.file.Files;
import java.nio.file.Path;
import java.util.ArrayList;
import java.util.HashSet;
import java.util.List;
import java.util.Set;
import java.util.TreeSet;
import java.util.regex.Matcher;
import java.util.regex.Pattern;

/** The face of the class, and the rules of LANGUAGE.md that can be seen from its text. */
public final class LanguageTest {
    private static final String[] FACE = {
        "int tell(long)", "int ring()", "int script()", "int fault(boolean)", "int tick(int)", "int take(int,int)",
        "int put(int,int)", "int end(int)", "int drop(int)", "int swap(boolean)", "int read()",
        "boolean mode(boolean)", "boolean mask(int)", "int resize(int)", "int storm(int,int)", "int count(int)",
        "int page(int,int)", "int cell(int,int)", "int open(int,int)", "int record(int,int)", "int latest(int)",
        "int parsed(int,int,int)", "int between(int,int,boolean)", "int sum(int,int,int)", "int would(int,int)",
        "int room(int)", "int after(int,int,int)", "int fewest(int,int)", "boolean image(int)", "boolean again(int)"};

    public static void main(String[] args) throws Exception {
        String source = Files.readString(Path.of("src/main/java/TraceRing.java"), StandardCharsets.ISO_8859_1);
        String code = source.replaceAll("(?s)/\\*.*?\\*/", "").replaceAll("//[^\\n]*", "");
        face();
        classes(TraceRing.class.getDeclaredClasses());
        words(code);
        library(code);
        constructors(code);
        methods(code);
        Check.due("signs above 127 in the source", source.chars().filter(c -> c > 127).count(), 0);
        Check.finish();
    }

    private static void face() {
        Set<String> want = new TreeSet<>(List.of(FACE));
        Set<String> got = new TreeSet<>();
        for (Method m : TraceRing.class.getDeclaredMethods()) {
            if (Modifier.isPublic(m.getModifiers())) {
                String call = m.toString().replaceAll("public (\\S+) TraceRing\\.", "$1 ");
                got.add(call);
            } else {
                Check.due("hidden method is private: " + m, Modifier.isPrivate(m.getModifiers()), true);
            }
        }
        Check.due("the face is " + got + ", due is " + want, got.equals(want), true);
        for (Field f : TraceRing.class.getDeclaredFields()) {
            Check.due("field is private: " + f, Modifier.isPrivate(f.getModifiers()) || f.getName().equals("NONE"), true);
            Check.due("no static state: " + f, Modifier.isFinal(f.getModifiers())
                && (!Modifier.isStatic(f.getModifiers()) || f.getType() == int.class), true);
        }
        Check.due("public and final", Modifier.isFinal(TraceRing.class.getModifiers()), true);
        Check.due("constructors", TraceRing.class.getDeclaredConstructors().length, 1);
    }

    private static void classes(Class<?>[] inside) {
        Set<String> faceNames = new HashSet<>();
        for (String call : FACE) {
            faceNames.add(call.replaceAll("\\S+ (\\w+)\\(.*", "$1"));
        }
        Check.due("not too many classes", inside.length < 12, true);
        for (Class<?> c : inside) {
            Check.due("static: " + c, Modifier.isStatic(c.getModifiers()), true);
            Check.due("private: " + c, Modifier.isPrivate(c.getModifiers()), true);
            Check.due("not too many fields: " + c, c.getDeclaredFields().length <= 20, true);
            for (Field f : c.getDeclaredFields()) {
                Check.due("no static state: " + f, Modifier.isStatic(f.getModifiers()), false);
            }
            for (Method m : c.getDeclaredMethods()) {
                Check.due("no name of the face: " + m, faceNames.contains(m.getName()), false);
                Check.due("parameters: " + m, m.getParameterCount() <= 7, true);
            }
        }
    }

    private static void words(String code) {
        String[] forbidden = {"throw", "throws", "try", "catch", "synchronized", "assert", "import", "package",
            "instanceof", "Random", "Thread", "nanoTime", "currentTimeMillis", "Object", "toString", "hashCode",
            "equals", "Exception", "float", "double"};
        for (String word : forbidden) {
            Check.due("the word " + word, Pattern.compile("\\b" + word + "\\b").matcher(code).find(), false);
        }
        Check.due("arrows", code.contains("->") || code.contains("::"), false);
        Check.due("joined texts", Pattern.compile("\"\\s*\\+|\\+\\s*\"").matcher(code).find(), false);
    }

    private static void library(String code) {
        for (String owner : new String[] {"Math", "System", "Integer", "Long", "Arrays", "String", "StringBuilder"}) {
            Matcher call = Pattern.compile("\\b" + owner + "\\.(\\w+)").matcher(code);
            while (call.find()) {
                Check.due("may be called: " + call.group(),
                    Set.of("Math.max", "Math.min", "System.arraycopy").contains(call.group()), true);
            }
        }
    }

    /** None is given anything, so none can hand out what it is given, or what it makes. */
    private static void constructors(String code) {
        Check.due("the word this", Pattern.compile("\\bthis\\b").matcher(code).find(), false);
        Matcher made = Pattern.compile("\\bnew (\\w+)\\(([^)]*)\\)").matcher(code);
        int seen = 0;
        while (made.find()) {
            seen++;
            Check.due("a constructor of " + made.group(1) + " is given " + made.group(2), made.group(2).isEmpty(), true);
        }
        Check.due("constructors were seen", seen > 5, true);
    }

    private static void methods(String code) {
        List<String> tooLong = new ArrayList<>();
        Matcher start = Pattern.compile("\\n( +)(?:(?:public|private|static|final) )*[\\w\\[\\]]+ ?\\w*\\([^)]*\\) \\{\\n")
            .matcher(code);
        int seen = 0;
        while (start.find()) {
            int end = code.indexOf("\n" + start.group(1) + "}", start.end());
            long lines = code.substring(start.end(), end).lines().count();
            seen++;
            if (lines > 60) {
                tooLong.add(start.group().trim());
            }
        }
        Check.due("methods were seen", seen > 60, true);
        Check.due("methods longer than 60 lines: " + tooLong, tooLong.size(), 0);
    }
}
