/** Each sentence of the document's term 3 that names a boundary: a test of its own. */
public final class TextsTest {
    public static void main(String[] args) {
        theText();
        tokens();
        ringLines();
        scriptLines();
        faults();
        storms();
        questionsChangeNothing();
        refusedCallsChangeNothing();
        Check.finish();
    }

    private static void due(String call, long got, long want) {
        Check.due(call, got, want);
    }

    private static void due(String call, boolean got, boolean want) {
        Check.due(call, got, want);
    }

    private static void says(String words) {
        Check.says(words);
    }

    /** A script on a new object: its answer, its fault and its place. */
    private static void dueScript(String text, int answer, int fault, int place) {
        TraceRing x = new TraceRing();
        due("script of \"" + text + "\"", Check.script(x, text), answer);
        Check.fault(x, fault, place);
    }

    private static void dueRing(String text, int answer, int fault, int place) {
        TraceRing x = new TraceRing();
        due("ring of \"" + text + "\"", Check.ring(x, text), answer);
        Check.fault(x, fault, place);
    }

    private static void theText() {
        says("THE TEXT has at most 400 bytes");
        TraceRing x = new TraceRing();
        for (int i = 1; i <= 50; i++) {
            due("tell of eight", x.tell(0x2020202020202020L), 8 * i);
        }
        due("one more", x.tell(0x2000000000000000L), -1);
        due("count(15)", x.count(15), 400);
        due("ring of 400 bytes", x.ring(), 48);
        due("count(15)", x.count(15), 0);
        due("tell again", x.tell(0x2000000000000000L), 1);
    }

    private static void tokens() {
        says("TOKENS, each as long as it goes");
        dueScript("forceswap;", -1, 1, 0);
        dueScript("swapswap;", -1, 1, 0);
        dueScript("swa p;", -1, 1, 0);
        dueScript("swa", -1, 1, 0);
        dueScript("tick12 3;", -1, 1, 7);
        dueScript("tick 1 2;", -1, 1, 7);
        dueScript("take01;", -1, 1, 6);
        dueScript("take0 1;", 1, 0, -1);
        says("blanks (32, 10) between where one likes");
        dueScript("", 0, 0, -1);
        dueScript(" \n \n", 0, 0, -1);
        dueScript("\n  tick\n\n 7 \n ;\n take  0\n1;end0;", 3, 0, -1);
        dueScript("tick7;take 0 1;end 0;", 3, 0, -1);
        dueScript("tick\t7;", -1, 1, 4);
        dueScript("tick 7;\r\n", -1, 1, 7);
        dueScript("tick 7;\013", -1, 1, 7);
        dueScript("tick 7;\240", -1, 1, 7);
        dueScript("tick 7;\037", -1, 1, 7);
        dueScript("tick 7;!", -1, 1, 7);
        says("words, letters a to z");
        dueScript("`", -1, 1, 0);
        dueScript("swap{;", -1, 1, 4);
        dueScript("swap`;", -1, 1, 4);
        dueScript("Swap;", -1, 1, 0);
        dueScript("swaP;", -1, 1, 0);
        dueScript("swap;z", -1, 1, 5);
        dueScript("swap;a", -1, 1, 5);
        dueScript("swa\360;", -1, 1, 0);
        dueRing("cells 12; pages 2; over; refuse;", 24, 0, -1);
        dueScript("mask 1; resize 2; take 0 1;", 3, 0, -1);
        says("NUMBERS, 1 to 6 digits");
        dueScript("tick 9;", 1, 0, -1);
        dueScript("tick 000009;", 1, 0, -1);
        dueScript("tick 999999;", -1, 2, 5);
        dueScript("tick /;", -1, 1, 5);
        dueScript("tick :;", -1, 1, 5);
        dueScript("tick 1/;", -1, 1, 6);
        dueScript("tick 1:;", -1, 1, 6);
        dueScript("tick -1;", -1, 1, 5);
        says("the sign ; (a longer row of digits is none)");
        dueScript("tick 0000009;", -1, 1, 5);
        dueScript("tick 4294967297;", -1, 1, 5);
        dueScript("tick 1<", -1, 1, 6);
        dueScript("tick 5000; tick 99999999999999999999;", -1, 1, 16);
    }

    private static void ringLines() {
        says("any number of  pages N ;  cells N ;  over ;  refuse ;  (later ones strike)");
        dueRing("", 48, 0, -1);
        dueRing("over;".repeat(80), 48, 0, -1);
        dueRing("pages 2;pages 6;", 96, 0, -1);
        dueRing("cells 32;cells 12;", 36, 0, -1);
        dueRing("pages 6;cells 20;pages 2;", 40, 0, -1);
        due("over strikes refuse", Check.begun("refuse;over;").count(2), 1);
        due("refuse strikes over", Check.begun("over;refuse;").count(2), 0);
        due("of 80 lines the last", Check.begun("over;".repeat(78) + "refuse;").count(2), 0);
        String[] others = {"tick 1;", "take 0 1;", "put 0 1;", "end 0;", "drop 0;", "swap;", "force;", "read 1;",
            "mask 1;", "resize 2;"};
        for (String other : others) {
            dueRing(other, -1, 1, 0);
        }
    }

    private static void scriptLines() {
        says("any number of  tick N ;  take N N ;  put N N ;  end N ;  drop N ;  swap ;  force ;  read N ;"
            + "  mask N ;  resize N ;");
        dueScript("take 0 1;end0;take 0 1;drop0;force;read1;mask1;resize2;tick1;take 0 1;put 0 1;", 11, 0, -1);
        TraceRing x = new TraceRing();
        x.take(0, 1);
        due("80 lines", Check.script(x, "end0;" + "swap;".repeat(79)), 1);
        Check.fault(x, 0, -1);
        due("all of many lines", Check.script(new TraceRing(), "tick1;".repeat(66)), 66);
        String[] others = {"pages 2;", "cells 12;", "over;", "refuse;"};
        for (String other : others) {
            dueScript(other, -1, 1, 0);
        }
        String[] words = {"pages", "cells", "over", "refuse", "tick", "take", "put", "end", "drop", "swap", "force",
            "read", "mask", "resize"};
        for (String word : words) {
            for (int i = 0; i < word.length(); i++) {
                char other = word.charAt(i) == 'z' ? 'a' : 'z';
                dueRing(word.substring(0, i) + other + word.substring(i + 1) + " 3;", -1, 1, 0);
                dueScript(word.substring(0, i) + other + word.substring(i + 1) + " 3;", -1, 1, 0);
            }
            dueScript(word + "a", -1, 1, 0);
            dueScript(word.substring(1), -1, 1, 0);
        }
        says("take: LEVEL, how many; put: LEVEL, number; end, drop: LEVEL");
        x = Check.begun("", "take 1 3; put 1 2;");
        Check.cells(x, 0, 48, 2, 0, 0, 0);
        due("its level", x.open(0, 1), 1);
        says("read: so many times, as far as there are any");
        for (int many = 1; many <= 5; many++) {
            x = Check.begun("", "take 0 1; end 0; take 0 1; end 0; take 0 1; end 0; force; read " + many + ";");
            due("read " + many, x.count(11), Math.min(3, many));
            due("left", x.latest(5), Math.max(0, 3 - many));
        }
        x = Check.begun("", "take 0 1; end 0; take 1 1; end 1; mask 1; force; read 1;");
        due("no more than so many times", x.count(10), 0);
        due("the other is left", x.latest(5), 1);
    }

    private static void faults() {
        says("with the place (the byte from 0 on; the end's: how many bytes there are)");
        dueScript("a", -1, 1, 0);
        dueScript("   a", -1, 1, 3);
        dueScript("tick", -1, 1, 4);
        dueScript("tick \n ", -1, 1, 7);
        dueScript("swap;".repeat(79) + "swap ", -1, 1, 400);
        says("1 the first token that can not stand there, or a byte that begins none, or the end, if more must come");
        dueScript(";", -1, 1, 0);
        dueScript("7;", -1, 1, 0);
        dueScript("swap;;", -1, 1, 5);
        dueScript("swap swap;", -1, 1, 5);
        dueScript("swap 1;", -1, 1, 5);
        dueScript("tick;", -1, 1, 4);
        dueScript("tick tick;", -1, 1, 5);
        dueScript("tick 1 tick;", -1, 1, 7);
        dueScript("take 1;", -1, 1, 6);
        dueScript("take 0 1 1;", -1, 1, 9);
        dueScript("put 0;", -1, 1, 5);
        dueScript("swap;.swap", -1, 1, 5);
        dueScript("tick 5", -1, 1, 6);
        dueScript("take 0", -1, 1, 6);
        dueScript("take 0 1", -1, 1, 8);
        dueRing("pages", -1, 1, 5);
        dueRing("over", -1, 1, 4);
        dueRing("over 2;", -1, 1, 5);
        dueRing("pages over;", -1, 1, 6);
        says("If there is none: 2 the first NUMBER that can not be");
        dueScript("tick 0; tick", -1, 1, 12);
        dueScript("tick 0; take 4 9;", -1, 2, 5);
        dueScript("tick 1; take 4 9;", -1, 2, 13);
        dueScript("take 0 9; tick 0;", -1, 2, 7);
        dueRing("pages 7; cells 9;", -1, 2, 6);
        dueRing("pages 7; pages 3;", -1, 2, 6);
        dueRing("pages 7; pages", -1, 1, 14);
        rangesOfNumbers();
    }

    /** A verb with the number in question as N, its least and its most. */
    private static void rangesOfNumbers() {
        says("pages 2 to 6, cells 12 to 32, tick 1 to 5000, LEVEL 0 to 3, take 1 to 8, put 0 to 255, read 1 to 99,"
            + " mask 0 to 15, resize 2 to 6");
        String[] forms = {"pages N;", "cells N;", "tick N;", "take N 1;", "put N 0;", "end N;", "drop N;", "take 0 N;",
            "put 0 N;", "read N;", "mask N;", "resize N;"};
        int[] least = {2, 12, 1, 0, 0, 0, 0, 1, 0, 1, 0, 2};
        int[] most = {6, 32, 5000, 3, 3, 3, 3, 8, 255, 99, 15, 6};
        for (int i = 0; i < forms.length; i++) {
            int place = forms[i].indexOf('N');
            int[] tried = {0, least[i] - 1, least[i], most[i], most[i] + 1, 999999};
            for (int n : tried) {
                if (n >= 0) {
                    TraceRing x = new TraceRing();
                    boolean can = n >= least[i] && n <= most[i];
                    String text = forms[i].replace("N", String.valueOf(n));
                    int answer = i < 2 ? Check.ring(x, text) : Check.script(x, text);
                    due(text + " can be", answer != -1, can);
                    Check.fault(x, can ? 0 : 2, can ? -1 : place);
                }
            }
        }
    }

    /** What is drawn, in another arithmetic than the program's. */
    private static int[] drawn(int seed, int... below) {
        long x = seed & 0xFFFFFFFFL;
        int[] drawn = new int[below.length];
        for (int i = 0; i < below.length; i++) {
            x = (x * 1103515245L + 12345L) & 0xFFFFFFFFL;
            drawn[i] = (int) ((x >> 16) % below[i]);
        }
        return drawn;
    }

    /** The next seed, from one on, by which this act is drawn first. */
    private static int seedThat(int from, int first) {
        for (int seed = from;; seed++) {
            if (drawn(seed, 10)[0] == first) {
                return seed;
            }
        }
    }

    private static void storms() {
        draws();
        stormTicks();
        stormTakes();
        stormPuts();
        stormEnds();
        stormDrops();
        stormSwaps();
        stormRefused();
    }

    private static void draws() {
        says("x becomes x * 1103515245 + 12345 (of 32 bits); it is x shifted right by 16 without sign, remainder by m");
        int[] seeds = {0, 1, -1, Integer.MAX_VALUE, Integer.MIN_VALUE, 65535, 65536, -65536, 1234567, -7654321};
        for (int seed : seeds) {
            for (int near = 0; near < 40; near++) {
                TraceRing x = Check.begun("", "take 0 1;");
                int[] two = drawn(seed + near, 10, 256);
                String told = "storm(" + (seed + near) + ", 1)";
                due(told, x.storm(seed + near, 1), 0);
                due(told + ": put", x.cell(0, 1), two[0] == 5 ? two[1] : 0);
                due(told + ": is a tick", x.count(3) > 0, two[0] == 0);
                due(told + ": is a take", x.count(6) == 2, two[0] >= 1 && two[0] <= 4);
                due(told + ": is an end", x.count(17) == 1, two[0] == 6 || two[0] == 7);
                due(told + ": is a drop", x.count(9) == 1, two[0] == 8);
            }
        }
    }

    private static void stormTicks() {
        says("0: tick of 1 and one below 40");
        int seed = 0;
        boolean least = false;
        boolean most = false;
        for (int i = 0; i < 200; i++) {
            seed = seedThat(seed + 1, 0);
            int ticked = 1 + drawn(seed, 10, 40)[1];
            TraceRing x = new TraceRing();
            due("storm(" + seed + ", 1)", x.storm(seed, 1), 0);
            due("now", x.count(3), ticked);
            least |= ticked == 1;
            most |= ticked == 40;
        }
        due("of 1 and of 40", least && most, true);
    }

    private static void stormTakes() {
        says("TAKE by the LEVEL that is the INNERMOST's and 1 more (0, if none is OPEN");
        int seed = 0;
        boolean[] seen = new boolean[9];
        for (int i = 0; i < 120; i++) {
            seed = seedThat(seed + 1, 1 + i % 4);
            int n = 1 + drawn(seed, 10, 8)[1];
            seen[n] = true;
            TraceRing x = new TraceRing();
            due("storm(" + seed + ", 1)", x.storm(seed, 1), 0);
            due("level with none open", x.open(0, 1), 0);
            due("how many", x.open(0, 3), n);
            for (int inner = 0; inner <= 2; inner++) {
                TraceRing y = Check.begun("", "take " + inner + " 1;");
                y.storm(seed, 1);
                due("level above " + inner, y.open(1, 1), inner + 1);
                due("how many", y.open(1, 3), n);
            }
        }
        due("of 1 and of 8", seen[1] && seen[8], true);
        says("if that is 4: END of the INNERMOST instead, nothing more is DRAWN");
        for (int act = 1; act <= 4; act++) {
            // the next act is the very next one that is drawn: a tick, and how long it is
            for (int s = 0, found = 0; found < 5; s++) {
                int[] three = drawn(s, 10, 10, 40);
                if (three[0] == act && three[1] == 0) {
                    found++;
                    TraceRing x = Check.begun("", "take 1 1; take 3 1;");
                    x.storm(s, 2);
                    due("storm(" + s + ", 2): open", x.count(4), 1);
                    due("dropped", x.count(9), 0);
                    due("ended", x.count(17), 2);
                    due("now", x.count(3), 1 + three[2]);
                }
            }
        }
    }

    private static void stormPuts() {
        says("5: one below 256: PUT of it by the INNERMOST (none: nothing, it is DRAWN all the same)");
        boolean high = false;
        for (int s = 0, found = 0; found < 60; s++) {
            int[] four = drawn(s, 10, 256, 10, 40);
            if (four[0] == 5 && four[2] == 0) {
                found++;
                TraceRing x = Check.begun("", "take 0 1; take 3 2;");
                x.storm(s, 2);
                due("storm(" + s + ", 2): put by the innermost", x.cell(0, 3), four[1]);
                due("now", x.count(3), 1 + four[3]);
                TraceRing none = new TraceRing();
                none.storm(s, 2);
                due("none open: used", none.page(0, 1), 0);
                due("it is drawn all the same: now", none.count(3), 1 + four[3]);
                TraceRing full = Check.begun("", "take 0 1; put 0 7;");
                full.storm(s, 2);
                due("all have been put: the cell", full.cell(0, 1), 7);
                due("it is drawn all the same: now", full.count(3), 1 + four[3]);
                high |= four[1] > 127;
            }
        }
        due("one above 127", high, true);
    }

    private static void stormEnds() {
        says("6, 7: END of the INNERMOST (none: nothing)");
        for (int act = 6; act <= 7; act++) {
            int seed = seedThat(100, act);
            TraceRing x = Check.begun("", "take 0 1; take 2 1;");
            x.storm(seed, 1);
            due("storm(" + seed + ", 1): open", x.count(4), 1);
            due("the outer one is", x.open(0, 1), 0);
            due("it was ended", x.count(17), 2);
            due("none was dropped", x.count(9), 0);
            TraceRing y = new TraceRing();
            due("storm with none open", y.storm(seed, 1), 0);
            Check.alike("none open", y, new TraceRing());
        }
    }

    private static void stormDrops() {
        says("8: DROP of it likewise");
        int seed = seedThat(100, 8);
        TraceRing x = Check.begun("", "take 0 1; take 2 1;");
        x.storm(seed, 1);
        due("storm(" + seed + ", 1): open", x.count(4), 1);
        due("one was dropped", x.count(9), 1);
        due("none was ended", x.count(17), -1);
        TraceRing y = new TraceRing();
        due("storm with none open", y.storm(seed, 1), 0);
        Check.alike("none open", y, new TraceRing());
    }

    private static void stormSwaps() {
        says("9: one below 2: SWAP, with force, if it is 1; then READ, twice");
        boolean[] seen = new boolean[2];
        for (int s = 0; s < 200; s++) {
            int[] two = drawn(s, 10, 2);
            if (two[0] == 9) {
                seen[two[1]] = true;
                TraceRing x = Check.begun("", "take 0 1; end 0; take 0 1; end 0; take 0 1; end 0;");
                x.storm(s, 1);
                due("storm(" + s + ", 1), the head is tail: swaps", x.count(14), two[1]);
                due("read twice, if there are any", x.count(11), 2 * two[1]);
                TraceRing y = Check.begun("cells 12;", "take 0 1; end 0; take 0 7; end 0; take 0 2; end 0;");
                y.storm(s, 1);
                due("the head is not tail: swaps", y.count(14), 1);
                due("read", y.count(11), 2);
                TraceRing z = Check.begun("", "take 0 1; end 0; take 0 1; end 0; take 0 1; end 0; force; take 1 1;");
                z.storm(s, 1);
                due("no swap can be: swaps", z.count(14), 1);
                due("read all the same", z.count(11), 2);
                TraceRing w = Check.begun("", "take 0 1; end 0; take 1 1; end 1; mask 8; force;");
                w.storm(s, 1);
                due("a read of none passes over", w.count(10), 2);
            }
        }
        due("with force and without", seen[0] && seen[1], true);
    }

    private static void stormRefused() {
        says("What is REFUSED does nothing");
        TraceRing x = new TraceRing();
        for (int i = 0; i < 199; i++) {
            x.tick(5000);
        }
        x.tick(4998);
        for (int s = 0, found = 0; found < 5; s++) {
            int[] four = drawn(s, 10, 40, 10, 8);
            if (four[0] == 0 && four[1] > 0 && four[2] >= 1 && four[2] <= 4) {
                found++;
                x.image(0);
                x.storm(s, 2);
                due("storm(" + s + ", 2): now", x.count(3), 999998);
                due("the next act is done", x.open(0, 3), 1 + four[3]);
                x.again(0);
            }
        }
    }

    /** Of all a little: a reader amidst a page, a gap, an extension, open ones in two pages, a text. */
    private static TraceRing ofAll() {
        TraceRing x = Check.begun("pages 3; cells 14;",
            "tick 3; take 0 2; put 0 9; end 0; take 1 1; take 2 1; end 2; drop 1; take 3 2; end 3; force; read 1;",
            "mask 13; tick 20; take 0 2; put 0 7; end 0; tick 30; take 1 2; put 1 8; end 1; take 0 2; put 0 5;",
            "take 2 6; put 2 6;");
        x.tell(0x6f76000000000000L);
        return x;
    }

    private interface Call {
        long on(TraceRing x);
    }

    private static void questionsChangeNothing() {
        says("Questions change nothing");
        Call[] questions = {
            x -> x.count(12), x -> x.count(15), x -> x.count(99), x -> x.page(0, 0), x -> x.page(-1, 5),
            x -> x.page(9, 9), x -> x.cell(0, 3), x -> x.cell(7, 0), x -> x.open(1, 5), x -> x.open(5, 0),
            x -> x.record(1, 10), x -> x.record(99, 0), x -> x.latest(4), x -> x.latest(5), x -> x.latest(99),
            x -> x.parsed(0, -1, 0), x -> x.parsed(0, 1, 3), x -> x.parsed(-1, 9, 0), x -> x.between(0, 99, false),
            x -> x.between(0, 99, true), x -> x.sum(0, 0, 14), x -> x.sum(0, 9, 9), x -> x.would(3, 8),
            x -> x.would(0, 1), x -> x.would(9, 9), x -> x.room(1), x -> x.room(8), x -> x.room(0),
            x -> x.after(11, 60, 7), x -> x.after(5, 60, 15), x -> x.after(1, 60, 99), x -> x.fewest(3, 60),
            x -> x.fewest(3, 0), x -> x.fault(false) + x.fault(true)};
        for (int i = 0; i < questions.length; i++) {
            TraceRing x = ofAll();
            long first = questions[i].on(x);
            due("question " + i + " asked again", questions[i].on(x), first);
            TraceRing y = ofAll();
            Check.alike("question " + i, x, y);
            Check.say(x, "er;");
            Check.say(y, "er;");
            due("question " + i + ": the text", x.ring(), y.ring());
        }
    }

    private static void refusedCallsChangeNothing() {
        says("Refused calls change nothing, unless it is said");
        Call[] calls = {
            x -> x.tick(0), x -> x.tick(-1), x -> x.tick(5001), x -> x.take(-1, 1), x -> x.take(4, 1),
            x -> x.take(3, 0), x -> x.take(3, 9), x -> x.put(2, -1), x -> x.put(2, 256), x -> x.put(0, 1),
            x -> x.put(-1, 1), x -> x.put(4, 1), x -> x.end(0), x -> x.end(3), x -> x.end(-1), x -> x.drop(0),
            x -> x.drop(3), x -> x.drop(-1), x -> x.resize(3), x -> x.resize(4), x -> x.resize(1), x -> x.resize(7),
            x -> x.storm(5, 0), x -> x.storm(5, 61), x -> x.storm(5, -1), x -> x.tell(0)};
        long[] answers = new long[calls.length];
        java.util.Arrays.fill(answers, -1);
        answers[calls.length - 1] = 2;
        for (int i = 0; i < calls.length; i++) {
            TraceRing x = ofAll();
            due("call " + i, calls[i].on(x), answers[i]);
            Check.alike("call " + i, x, ofAll());
        }
        Call[] falseOnes = {
            x -> x.mode(true) ? 1 : 0, x -> x.mask(13) ? 1 : 0, x -> x.mask(-1) ? 1 : 0, x -> x.mask(16) ? 1 : 0,
            x -> x.again(0) ? 1 : 0, x -> x.again(3) ? 1 : 0, x -> x.again(-1) ? 1 : 0, x -> x.image(3) ? 1 : 0,
            x -> x.image(-1) ? 1 : 0};
        for (int i = 0; i < falseOnes.length; i++) {
            TraceRing x = ofAll();
            due("call " + i + " of false", falseOnes[i].on(x), 0);
            Check.alike("call " + i + " of false", x, ofAll());
        }
        TraceRing x = ofAll();
        due("take of the same level", x.take(2, 1), -2);
        due("take of a lower level", x.take(1, 1), -2);
        Check.alike("refused takes", x, ofAll());
        refusedSwaps();
    }

    private static void refusedSwaps() {
        String openInHead = "take 3 1; end 3; take 0 8; put 0 3; take 1 8;";
        TraceRing x = Check.begun("cells 12;", openInHead);
        due("swap(false), one is open there", x.swap(false), -1);
        due("swap(true), one is open there", x.swap(true), -1);
        Check.alike("swap", x, Check.begun("cells 12;", openInHead));
        String headIsTail = "take 0 1; end 0; take 0 1; end 0; force; read 1; take 0 1; end 0;";
        x = Check.begun("", headIsTail);
        due("swap(false) of the tail", x.swap(false), -1);
        Check.alike("swap", x, Check.begun("", headIsTail));
        String empty = "take 0 1; end 0; take 0 1; end 0; force; read 1;";
        x = Check.begun("", empty);
        due("swap(true) of an empty one", x.swap(true), -1);
        Check.alike("swap", x, Check.begun("", empty));
        String allPut = "take 0 1; put 0 9;";
        x = Check.begun("", allPut);
        due("put, all have been put", x.put(0, 1), -1);
        Check.alike("put", x, Check.begun("", allPut));
        x = new TraceRing();
        due("put, end, drop with none open", x.put(0, 1) + x.end(0) + x.drop(0), -3);
        due("of no level at all", x.put(-1, 1) + x.end(-1) + x.drop(-1), -3);
        Check.alike("none open", x, new TraceRing());
    }
}
