import java.nio.charset.StandardCharsets;

/** Compares answers with those that are due, and counts the wrong ones. */
final class Check {
    private static int wrong = 0;

    private Check() {
    }

    static void due(String call, long got, long want) {
        if (got != want) {
            wrong++;
            if (wrong <= 50) {
                System.out.println(call + " answered " + got + ", due is " + want);
            }
        }
    }

    static void due(String call, boolean got, boolean want) {
        due(call, got ? 1 : 0, want ? 1 : 0);
    }

    static boolean anyWrong() {
        return wrong > 0;
    }

    static void finish() {
        System.out.println(wrong == 0 ? "all answers are as due" : wrong + " answers are not as due");
        if (wrong != 0) {
            System.exit(1);
        }
    }

    /** The bytes of a text, eight by eight, as tell() takes them. */
    static long[] eights(String text) {
        byte[] bytes = text.getBytes(StandardCharsets.ISO_8859_1);
        long[] eights = new long[(bytes.length + 7) / 8];
        for (int i = 0; i < bytes.length; i++) {
            eights[i / 8] |= (bytes[i] & 255L) << (56 - 8 * (i % 8));
        }
        return eights;
    }

    static void say(TraceRing x, String text) {
        for (long eight : eights(text)) {
            x.tell(eight);
        }
    }

    static int ring(TraceRing x, String text) {
        say(x, text);
        return x.ring();
    }

    static int script(TraceRing x, String text) {
        say(x, text);
        return x.script();
    }
}
