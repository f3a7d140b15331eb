import java.util.Random;

/** Long random runs: TraceRing answers as the model does, and ends up as the model does. */
public final class ModelTest {
    private static final int CALLS = 512;
    private static final String[] WORDS = {
        "tick", "take", "put", "end", "drop", "swap", "force", "read", "mask", "resize",
        "pages", "cells", "over", "refuse"};

    private final Random random;
    private final TraceRing x = new TraceRing();
    private final Model model = new Model();
    private final StringBuilder told = new StringBuilder();

    private ModelTest(long seed) {
        random = new Random(seed);
        told.append("seed ").append(seed).append(":");
    }

    public static void main(String[] args) {
        int runs = args.length > 0 ? Integer.parseInt(args[0]) : 1500;
        for (int seed = 0; seed < runs && !Check.anyWrong(); seed++) {
            new ModelTest(seed).run(seed % 6);
        }
        Check.finish();
    }

    private void run(int kind) {
        for (int i = 0; i < CALLS && !Check.anyWrong(); i++) {
            if (random.nextInt(100) < 3) {
                tellText(kind);
            } else {
                act(kind);
            }
            if (random.nextInt(8) == 0) {
                ask();
            }
            if (i % 64 == 63) {
                compareAll();
            }
        }
    }

    private int below(int m) {
        return random.nextInt(m);
    }

    /** Mostly what can be, at times what can not. */
    private int number(int least, int most) {
        switch (below(24)) {
            case 0:
                return least - 1;
            case 1:
                return most + 1;
            case 2:
                return below(2) == 0 ? Integer.MIN_VALUE : Integer.MAX_VALUE;
            case 3:
                return random.nextInt();
            default:
                return least + below(most - least + 1);
        }
    }

    private int level() {
        return model.open.isEmpty() || below(5) == 0 ? number(0, 3) : model.innermost().level;
    }

    private int levelAbove() {
        return below(6) == 0 ? number(0, 3) : Math.min(3, model.open.isEmpty() ? below(2) : model.innermost().level + 1);
    }

    private void due(String call, long got, long want) {
        told.append(' ').append(call);
        Check.due(got == want ? call : told.toString(), got, want);
    }

    private void due(String call, boolean got, boolean want) {
        due(call, got ? 1 : 0, want ? 1 : 0);
    }

    private void act(int kind) {
        int a;
        int b;
        boolean yes = random.nextBoolean();
        switch (below(kind == 1 ? 40 : 30)) {
            case 0: case 1: case 2:
                a = below(3) == 0 ? number(1, 5000) : number(1, 30);
                due("tick(" + a + ")", x.tick(a), model.tick(a));
                break;
            case 3: case 4: case 5:
                a = level();
                b = number(0, 255);
                due("put(" + a + "," + b + ")", x.put(a, b), model.put(a, b));
                break;
            case 6: case 7: case 8: case 9: case 10:
                a = level();
                due("end(" + a + ")", x.end(a), model.end(a));
                break;
            case 11: case 12:
                a = level();
                due("drop(" + a + ")", x.drop(a), model.drop(a));
                break;
            case 13:
                if (kind % 2 == 0) {
                    due("swap(" + yes + ")", x.swap(yes), model.swap(yes));
                }
                break;
            case 14: case 15:
                due("read()", x.read(), model.read());
                break;
            case 16:
                actSeldom(kind, yes);
                break;
            case 17:
                actSeldom(kind, yes);
                break;
            default:
                a = levelAbove();
                b = number(1, 8);
                due("take(" + a + "," + b + ")", x.take(a, b), model.take(a, b));
                break;
        }
    }

    private void actSeldom(int kind, boolean yes) {
        int a;
        int b;
        switch (below(9)) {
            case 0:
                due("mode(" + yes + ")", x.mode(yes), model.mode(yes));
                break;
            case 1:
                a = number(0, 15);
                due("mask(" + a + ")", x.mask(a), model.mask(a));
                break;
            case 2: case 3:
                a = number(2, 6);
                due("resize(" + a + ")", x.resize(a), model.resize(a));
                break;
            case 4:
                a = random.nextInt();
                b = number(1, 60);
                due("storm(" + a + "," + b + ")", x.storm(a, b), model.storm(a, b));
                break;
            case 5: case 6:
                a = number(0, 2);
                due("image(" + a + ")", x.image(a), model.image(a));
                break;
            case 7:
                a = number(0, 2);
                due("again(" + a + ")", x.again(a), model.again(a));
                break;
            default:
                if (kind < 4) {
                    due("swap(" + yes + ")", x.swap(yes), model.swap(yes));
                }
                break;
        }
    }

    private String randomText(boolean script) {
        StringBuilder text = new StringBuilder();
        int lines = below(script ? 14 : 5);
        for (int i = 0; i < lines; i++) {
            String word = script ? WORDS[below(10)] : WORDS[10 + below(4)];
            text.append(word);
            int numbers = word.matches("take|put") ? 2 : word.matches("swap|force|over|refuse") ? 0 : 1;
            for (int k = 0; k < numbers; k++) {
                text.append(k > 0 || below(4) > 0 ? " " : "").append(below(3) == 0 ? "\n " : "");
                text.append(below(30) == 0 ? below(10000000) : numberFor(word, k));
            }
            text.append(below(5) == 0 ? "  " : "").append(";").append(below(3) == 0 ? " " : "");
        }
        if (below(5) == 0 && text.length() > 0) {
            text.setCharAt(below(text.length()), (char) (below(3) == 0 ? 1 + below(255) : "; 0a9z".charAt(below(6))));
        }
        return text.toString();
    }

    private String numberFor(String word, int k) {
        String zeros = below(8) == 0 ? "00" : "";
        switch (word) {
            case "pages": case "resize":
                return zeros + (2 + below(5));
            case "cells":
                return zeros + (12 + below(21));
            case "tick":
                return zeros + (1 + below(below(2) == 0 ? 5000 : 20));
            case "read":
                return zeros + (1 + below(6));
            case "mask":
                return zeros + below(16);
            default:
                return zeros + (k == 0 ? below(2) : 1 + below(8));
        }
    }

    private void tellText(int kind) {
        boolean script = below(5) != 0;
        String text = randomText(script);
        for (long eight : Check.eights(text)) {
            due("tell(" + eight + ")", x.tell(eight), model.tell(eight));
        }
        if (script || below(8) == 0) {
            due("script()", x.script(), model.script());
        } else {
            due("ring()", x.ring(), model.ring());
        }
        if (below(20) == 0) {
            long eight = random.nextLong();
            due("tell(" + eight + ")", x.tell(eight), model.tell(eight));
        }
        due("fault(false)", x.fault(false), model.fault(false));
        due("fault(true)", x.fault(true), model.fault(true));
    }

    private void ask() {
        int a = number(-1, 5);
        int b = number(-1, 35);
        int c = number(0, 33);
        int seed = random.nextInt();
        int n = number(1, 60);
        boolean yes = random.nextBoolean();
        switch (below(14)) {
            case 0:
                due("count(" + b + ")", x.count(b), model.count(b));
                break;
            case 1:
                due("page(" + a + "," + b + ")", x.page(a, b), model.page(a, b));
                break;
            case 2:
                due("cell(" + a + "," + b + ")", x.cell(a, b), model.cell(a, b));
                break;
            case 3:
                due("open(" + a + "," + b + ")", x.open(a, b), model.open(a, b));
                break;
            case 4:
                due("record(" + b + "," + c + ")", x.record(b, c), model.record(b, c));
                break;
            case 5:
                due("latest(" + c + ")", x.latest(c), model.latest(c));
                break;
            case 6:
                due("parsed(" + a + "," + b + "," + (c % 6) + ")", x.parsed(a, b, c % 6), model.parsed(a, b, c % 6));
                break;
            case 7:
                int from = model.now - below(50);
                int to = from + below(60) - 5;
                due("between(" + from + "," + to + "," + yes + ")", x.between(from, to, yes),
                    model.between(from, to, yes));
                break;
            case 8:
                due("sum(" + a + "," + b + "," + c + ")", x.sum(a, b, c), model.sum(a, b, c));
                break;
            case 9:
                int level = levelAbove();
                int data = number(1, 8);
                due("would(" + level + "," + data + ")", x.would(level, data), model.would(level, data));
                break;
            case 10: case 11:
                int many = number(1, 8);
                due("room(" + many + ")", x.room(many), model.room(many));
                break;
            case 12:
                int what = number(0, 40);
                due("after(" + seed + "," + n + "," + what + ")", x.after(seed, n, what), model.after(seed, n, what));
                break;
            default:
                due("fewest(" + seed + "," + n + ")", x.fewest(seed, n), model.fewest(seed, n));
                break;
        }
    }

    private void compareAll() {
        for (int what = -2; what <= 42; what++) {
            due("count(" + what + ")", x.count(what), model.count(what));
            due("latest(" + what + ")", x.latest(what), model.latest(what));
        }
        for (int k = -2; k <= 6; k++) {
            for (int i = -2; i <= 33; i++) {
                due("page(" + k + "," + i + ")", x.page(k, i), model.page(k, i));
                due("cell(" + k + "," + i + ")", x.cell(k, i), model.cell(k, i));
                due("open(" + k + "," + i + ")", x.open(k, i), model.open(k, i));
                for (int what = -1; what <= 5; what++) {
                    due("parsed(" + k + "," + i + "," + what + ")", x.parsed(k, i, what), model.parsed(k, i, what));
                }
            }
        }
        for (int k = -1; k <= model.readyOnes().size(); k++) {
            for (int what = -1; what <= 18; what++) {
                due("record(" + k + "," + what + ")", x.record(k, what), model.record(k, what));
            }
        }
        for (int n = 0; n <= 9; n++) {
            due("room(" + n + ")", x.room(n), model.room(n));
            for (int level = -1; level <= 4; level++) {
                due("would(" + level + "," + n + ")", x.would(level, n), model.would(level, n));
            }
        }
    }
}
