import java.lang.reflect.Method;
import java.lang.reflect.Modifier;
import java.nio.file.Files;
import java.nio.file.Path;
import java.util.ArrayList;
import java.util.List;

/** README.md tells each call of the face, and its example answers as it says. */
public final class ReadmeTest {
    private static final List<String> lines = new ArrayList<>();
    private static int next = 0;

    public static void main(String[] args) throws Exception {
        String readme = Files.readString(Path.of("README.md"));
        for (Method m : TraceRing.class.getDeclaredMethods()) {
            if (Modifier.isPublic(m.getModifiers())) {
                Check.due("README tells " + m.getName(), readme.contains("`" + m.getName() + "`"), true);
            }
        }
        Check.due("README tells how the tests are run", readme.contains("\n    .ci/run\n"), true);
        for (String line : readme.split("\n")) {
            if (line.startsWith("x.")) {
                lines.add(line);
            }
        }
        example();
        Check.due("calls of the example", next, lines.size());
        Check.finish();
    }

    /** The next line of the example is this call, and tells this answer. */
    private static void answered(String call, int answer) {
        String line = next < lines.size() ? lines.get(next) : "nothing";
        next++;
        boolean isTold = line.matches("\\Q" + call + ";\\E +// " + answer + ": .*");
        Check.due(call + " answers " + answer + ", README tells: " + line, isTold, true);
    }

    private static void example() {
        TraceRing x = new TraceRing();
        answered("x.take(0, 2)", x.take(0, 2));
        answered("x.put(0, 200)", x.put(0, 200));
        answered("x.tick(20)", x.tick(20));
        answered("x.take(1, 1)", x.take(1, 1));
        answered("x.end(1)", x.end(1));
        answered("x.count(12)", x.count(12));
        answered("x.end(0)", x.end(0));
        answered("x.count(12)", x.count(12));
        answered("x.swap(true)", x.swap(true));
        answered("x.read()", x.read());
        answered("x.latest(10)", x.latest(10));
        answered("x.read()", x.read());
        answered("x.latest(2)", x.latest(2));
        answered("x.read()", x.read());
        answered("x.tell(0x706167657320323bL)", x.tell(0x706167657320323bL));
        answered("x.tell(0x7265667573653b00L)", x.tell(0x7265667573653b00L));
        answered("x.ring()", x.ring());
        answered("x.tell(0x656e64203b000000L)", x.tell(0x656e64203b000000L));
        answered("x.script()", x.script());
        answered("x.fault(true)", x.fault(true));
    }
}
