import java.nio.charset.StandardCharsets;

/** Compares answers with those that are due, and counts the wrong ones. */
final class Check {
    /** Of the wrong answers of one sentence the first ones are told, so that each sentence is seen. */
    private static final int TOLD = 4;

    private static int wrong = 0;
    private static int wrongOfSentence = 0;
    private static String sentence = "";

    private Check() {
    }

    /** The sentence of the document that the next calls try. */
    static void says(String words) {
        sentence = "[" + words + "] ";
        wrongOfSentence = 0;
    }

    static void due(String call, long got, long want) {
        if (got != want) {
            wrong++;
            wrongOfSentence++;
            if (wrongOfSentence <= (sentence.isEmpty() ? 10 * TOLD : TOLD)) {
                System.out.println(sentence + call + " answered " + got + ", due is " + want);
            }
        }
    }

    static void due(String call, boolean got, boolean want) {
        due(call, got ? 1 : 0, want ? 1 : 0);
    }

    static boolean anyWrong() {
        return wrong > 0;
    }

    static void finish() {
        System.out.println(wrong == 0 ? "all answers are as due" : wrong + " answers are not as due");
        if (wrong != 0) {
            System.exit(1);
        }
    }

    /** The bytes of a text, eight by eight, as tell() takes them. */
    static long[] eights(String text) {
        byte[] bytes = text.getBytes(StandardCharsets.ISO_8859_1);
        long[] eights = new long[(bytes.length + 7) / 8];
        for (int i = 0; i < bytes.length; i++) {
            eights[i / 8] |= (bytes[i] & 255L) << (56 - 8 * (i % 8));
        }
        return eights;
    }

    static void say(TraceRing x, String text) {
        for (long eight : eights(text)) {
            x.tell(eight);
        }
    }

    static int ring(TraceRing x, String text) {
        say(x, text);
        return x.ring();
    }

    static int script(TraceRing x, String text) {
        say(x, text);
        return x.script();
    }

    /** A new object that begins as the one text tells, and on which all lines of the others are done. */
    static TraceRing begun(String ring, String... scripts) {
        TraceRing x = new TraceRing();
        due("ring of \"" + ring + "\" is no fault", ring(x, ring) > 0, true);
        for (String script : scripts) {
            done(x, script);
        }
        return x;
    }

    /** All lines of a script are done. */
    static void done(TraceRing x, String script) {
        int lines = 0;
        for (int i = 0; i < script.length(); i++) {
            lines += script.charAt(i) == ';' ? 1 : 0;
        }
        due("script of \"" + script + "\"", script(x, script), lines);
    }

    static void cells(TraceRing x, int k, int... cells) {
        for (int i = 0; i < cells.length; i++) {
            due("cell(" + k + ", " + i + ")", x.cell(k, i), cells[i]);
        }
    }

    static void fault(TraceRing x, int fault, int place) {
        due("fault(false)", x.fault(false), fault);
        due("fault(true)", x.fault(true), place);
    }

    /** Two objects answer alike whatever one asks, but for what count() is asked of the last ones. */
    static void alike(String call, TraceRing x, TraceRing y, int... butFor) {
        for (int what = 0; what <= 40; what++) {
            boolean asked = true;
            for (int other : butFor) {
                asked &= other != what;
            }
            if (asked) {
                due(call + ": count(" + what + ")", x.count(what), y.count(what));
            }
        }
        due(call + ": fault(false)", x.fault(false), y.fault(false));
        due(call + ": fault(true)", x.fault(true), y.fault(true));
        for (int k = -1; k < y.count(5); k++) {
            for (int what = 0; what <= 5; what++) {
                due(call + ": page(" + k + ", " + what + ")", x.page(k, what), y.page(k, what));
            }
            for (int i = 0; i < y.count(1); i++) {
                due(call + ": cell(" + k + ", " + i + ")", x.cell(k, i), y.cell(k, i));
            }
        }
        for (int k = 0; k <= y.count(4); k++) {
            for (int what = 0; what <= 6; what++) {
                due(call + ": open(" + k + ", " + what + ")", x.open(k, what), y.open(k, what));
            }
        }
        for (int k = 0; k <= y.count(12); k++) {
            for (int what = 0; what <= 3; what++) {
                due(call + ": record(" + k + ", " + what + ")", x.record(k, what), y.record(k, what));
            }
        }
        for (int what = 0; what <= 17; what++) {
            due(call + ": latest(" + what + ")", x.latest(what), y.latest(what));
        }
    }
}
