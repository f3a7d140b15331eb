import static java.lang.Integer.MAX_VALUE;
import static java.lang.Integer.MIN_VALUE;

/** Each sentence of the promises 1 to 31 that names a boundary: a test of its own. */
public final class EdgeTest {
    public static void main(String[] args) {
        newObject();
        tell();
        ring();
        script();
        fault();
        tick();
        take();
        put();
        end();
        drop();
        swap();
        read();
        mode();
        mask();
        resize();
        storm();
        count();
        page();
        cell();
        open();
        record();
        latest();
        parsed();
        between();
        sum();
        would();
        room();
        after();
        fewest();
        image();
        again();
        Check.finish();
    }

    private static void due(String call, long got, long want) {
        Check.due(call, got, want);
    }

    private static void due(String call, boolean got, boolean want) {
        Check.due(call, got, want);
    }

    private static void says(String words) {
        Check.says(words);
    }

    /** An object at a time, by ticks alone. */
    private static TraceRing atTime(int now) {
        TraceRing x = new TraceRing();
        for (int left = now; left > 0; left -= 5000) {
            x.tick(Math.min(5000, left));
        }
        return x;
    }

    /** What count() answers of a ring that has just begun. */
    private static void dueBegun(TraceRing x, int pages, int cells, int over, int bytes) {
        int[] counts = {pages, cells, over, 0, 0, 1, 0, 0, 0, 0, 0, 0, 0, 0, 0, bytes, 0, -1, 0, 0, 0, 0, 0, 0};
        for (int what = 0; what < counts.length; what++) {
            due("count(" + what + ")", x.count(what), counts[what]);
        }
        for (int level = 0; level <= 3; level++) {
            due("count(3" + level + ")", x.count(30 + level), 0);
        }
        due("count(40)", x.count(40), 15);
        due("page(0, 0)", x.page(0, 0), -1);
        due("page(0, 1)", x.page(0, 1), 0);
        due("page(0, 5)", x.page(0, 5), 0);
        due("page(-1, 1)", x.page(-1, 1), 0);
        due("page(1, 1)", x.page(1, 1), -2);
        due("the head's cells", x.sum(0, 0, cells), 0);
        due("the reader's cells", x.sum(-1, 0, cells), 0);
        due("latest(0)", x.latest(0), -2);
        due("latest(5)", x.latest(5), 0);
        due("open(0, 0)", x.open(0, 0), -2);
        due("record(0, 0)", x.record(0, 0), -2);
    }

    private static void newObject() {
        says("The RING as at first");
        TraceRing x = new TraceRing();
        dueBegun(x, 3, 16, 1, 0);
        Check.fault(x, 0, -1);
        for (int k = 0; k <= 2; k++) {
            due("nothing is kept as " + k, x.again(k), false);
        }
        due("an object knows nothing of another", Check.begun("", "take 0 1; end 0;").count(6), 1);
        due("an object knows nothing of another", new TraceRing().count(6), 0);
    }

    private static void tell() {
        says("the highest first, up to the first one that is 0: how many THE TEXT has");
        for (int many = 0; many <= 8; many++) {
            long eight = many == 0 ? 0 : 0x2020202020202020L << 8 * (8 - many);
            due("tell of " + many, new TraceRing().tell(eight), many);
        }
        TraceRing x = new TraceRing();
        due("what is behind a 0 does not come", x.tell(0x7265660075736500L), 3);
        due("nor behind a first 0", x.tell(0x00797979797979L << 8 >>> 8), 3);
        due("the rest", x.tell(0x7573653b00202020L), 7);
        due("ring", x.ring(), 48);
        due("refuse", x.count(2), 0);
        due("bytes of 128 and above", x.tell(0x80FFFEFDFCFBFAF9L), 8);
        due("a last byte alone", x.tell(0x00000000000000FFL), 8);
        says("NONE, and nothing comes, if it would have more than 400");
        x = new TraceRing();
        for (int i = 0; i < 49; i++) {
            x.tell(0x2020202020202020L);
        }
        due("392 and one", x.tell(0x2000000000000000L), 393);
        due("393 and eight", x.tell(0x7265667573653b20L), -1);
        due("bytes", x.count(15), 393);
        due("393 and seven", x.tell(0x7265667573653bL << 8), 400);
        due("400 and one", x.tell(0x7800000000000000L), -1);
        due("400 and eight", x.tell(0x7878787878787878L), -1);
        due("400 and none", x.tell(0), 400);
        due("ring", x.ring(), 48);
        due("the seven came", x.count(2), 0);
        x = new TraceRing();
        for (int i = 0; i < 49; i++) {
            x.tell(0x2020202020202020L);
        }
        x.tell(0x2020000000000000L);
        due("394 and seven", x.tell(0x7265667573653b00L), -1);
        due("ring", x.ring(), 48);
        due("not one of the seven came", x.count(2), 1);
    }

    private static void ring() {
        says("how many CELLS there are in all PAGES of the RING");
        due("of nothing", Check.ring(new TraceRing(), ""), 48);
        due("the fewest", Check.ring(new TraceRing(), "pages 2; cells 12;"), 24);
        due("the most", Check.ring(new TraceRing(), "pages 6; cells 32;"), 192);
        says("THE TEXT is read as RING (it is empty then)");
        TraceRing x = Check.begun("refuse;");
        due("bytes", x.count(15), 0);
        due("read anew", x.ring(), 48);
        due("refuse is not told any more", x.count(2), 1);
        due("a fault", Check.ring(x, "refuse"), -1);
        due("bytes", x.count(15), 0);
        due("nothing comes behind that", Check.ring(x, ";"), -1);
        Check.fault(x, 1, 0);
        says("all is as at first (what is kept stays), but as told");
        x = busy();
        x.image(2);
        due("ring", Check.ring(x, "pages 5; cells 13; refuse;"), 65);
        dueBegun(x, 5, 13, 0, 0);
        Check.fault(x, 0, -1);
        due("ring of nothing", x.ring(), 48);
        dueBegun(x, 3, 16, 1, 0);
        due("put, read, swap", x.put(2, 1) + x.read() + x.swap(true), -3);
        due("what is kept stays", x.again(2), true);
        Check.alike("again(2)", x, busy());
        says("NONE: a FAULT (all but THE TEXT, the FAULT stays)");
        String[] faulty = {"pages 1;", "cells 33;", "over", "tick 1;", "pages 2; cells 12; refuse"};
        for (String text : faulty) {
            TraceRing y = busy();
            due("ring of \"" + text + "\"", Check.ring(y, text), -1);
            due("its fault", y.fault(false) > 0, true);
            due("a script of nothing has none", y.script(), 0);
            Check.alike("all but THE TEXT, the FAULT", y, busy());
        }
    }

    /** As busy as can be with few calls. */
    private static TraceRing busy() {
        return Check.begun("pages 3; cells 14;",
            "tick 3; take 0 2; put 0 9; end 0; take 1 1; take 2 1; end 2; drop 1; take 3 2; end 3; force; read 1;",
            "mask 13; tick 20; take 0 2; put 0 7; end 0; tick 30; take 1 2; put 1 8; end 1; take 0 2; put 0 5;",
            "take 2 6; put 2 6;");
    }

    private static void script() {
        says("up to the first that is REFUSED");
        String[] lines = {"take 0 1; take 0 1;", "take 2 1; take 1 1;", "put 0 1;", "take 0 1; put 1 1;",
            "take 0 1; put 0 1; put 0 1;", "end 0;", "take 1 1; end 0;", "drop 0;", "take 1 1; drop 2;", "swap;",
            "take 0 1; end 0; swap;", "force;", "take 0 1; force;", "read 1;", "mask 15;", "resize 3;",
            "take 0 1; resize 2;"};
        for (String line : lines) {
            TraceRing x = new TraceRing();
            int before = line.split(";").length - 1;
            due("script of \"" + line + " tick 7;\"", Check.script(x, line + " tick 7;"), before);
            due("what is behind it is not done", x.count(3), 0);
            Check.fault(x, 0, -1);
        }
        TraceRing late = atTime(999999);
        due("a tick beyond the end", Check.script(late, "tick 1; mask 1;"), 0);
        due("the mask", late.count(40), 15);
        says("a TAKE that is LOST is not");
        TraceRing x = Check.begun("pages 2; cells 12; refuse;", "take 0 8; end 0; take 0 8; end 0;");
        due("script", Check.script(x, "take 0 8; take 1 8; tick 2;"), 3);
        due("lost", x.count(7), 2);
        due("now", x.count(3), 2);
        says("nor is a read, once anything is READ");
        x = Check.begun("", "take 0 1; end 0; take 0 1; end 0; force;");
        due("more than there are", Check.script(x, "read 99; tick 2;"), 2);
        due("now none is left", Check.script(x, "read 1; tick 2;"), 0);
        due("now", x.count(3), 2);
        says("how many were done");
        due("none", Check.script(new TraceRing(), ""), 0);
        due("all of them", Check.script(new TraceRing(), "tick 1; tick 1; tick 1;"), 3);
        due("those ahead of one", Check.script(new TraceRing(), "tick 1; tick 1; end 0; tick 1; tick 1;"), 2);
        due("the first is refused", Check.script(new TraceRing(), "end 0; tick 1; tick 1;"), 0);
        due("as many as can be", Check.script(Check.begun("", "take 3 8;"), "end3;" + "mask0;mask1;".repeat(32)), 65);
        says("THE TEXT is read as SCRIPT (it is empty then)");
        x = Check.begun("", "tick 5;");
        due("bytes", x.count(15), 0);
        due("script of nothing", x.script(), 0);
        due("now", x.count(3), 5);
        due("refused in the midst", Check.script(x, "end 0; tick 5;"), 0);
        due("bytes", x.count(15), 0);
        says("NONE: a FAULT (nothing is done)");
        String[] faulty = {"tick 5; tick 0;", "tick 5; tick", "tick 5; over;", "tick 5; ?", "tick 5; take 0 9;"};
        for (String text : faulty) {
            x = new TraceRing();
            due("script of \"" + text + "\"", Check.script(x, text), -1);
            due("now", x.count(3), 0);
            due("bytes", x.count(15), 0);
        }
    }

    private static void fault() {
        says("Of the latest ring(), script(): its FAULT (0 without, and at first), or (place) its place (NONE without)");
        TraceRing x = new TraceRing();
        Check.fault(x, 0, -1);
        Check.script(x, "tick 0;");
        Check.fault(x, 2, 5);
        Check.ring(x, " ;");
        Check.fault(x, 1, 1);
        Check.script(x, "tick 1;");
        Check.fault(x, 0, -1);
        Check.ring(x, "cells 0;");
        Check.fault(x, 2, 6);
        Check.ring(x, "");
        Check.fault(x, 0, -1);
        Check.script(x, "tick 1; end 0;");
        Check.fault(x, 0, -1);
        Check.script(x, "?");
        Check.fault(x, 1, 0);
        x.tell(0x6f7665723b000000L);
        x.tick(1);
        x.take(9, 9);
        Check.fault(x, 1, 0);
    }

    private static void tick() {
        says("NOW is so much later, 1 to 5000, 999,999 at most: NOW");
        due("tick(1)", new TraceRing().tick(1), 1);
        due("tick(5000)", new TraceRing().tick(5000), 5000);
        due("to the end by 5000", atTime(994999).tick(5000), 999999);
        due("to the end by 1", atTime(999998).tick(1), 999999);
        says("NONE: another number, it would be more");
        int[] none = {0, -1, 5001, MIN_VALUE, MAX_VALUE};
        for (int n : none) {
            TraceRing x = new TraceRing();
            due("tick(" + n + ")", x.tick(n), -1);
            due("now", x.count(3), 0);
        }
        TraceRing x = atTime(995000);
        due("beyond the end by one", x.tick(5000), -1);
        due("now", x.count(3), 995000);
        x = atTime(999999);
        due("at the end", x.tick(1), -1);
        due("of another number at the end", x.tick(MAX_VALUE), -1);
        due("now", x.count(3), 999999);
    }

    private static void take() {
        says("TAKE: its NUMBER. NONE: another LEVEL, another n; -2: it is REFUSED; -3: it is LOST");
        int[][] none = {{-1, 1}, {4, 1}, {0, 0}, {0, 9}, {0, -1}, {MIN_VALUE, 1}, {MAX_VALUE, 1}, {0, MIN_VALUE},
            {0, MAX_VALUE}, {4, 9}};
        for (int[] asked : none) {
            TraceRing x = new TraceRing();
            due("take(" + asked[0] + ", " + asked[1] + ")", x.take(asked[0], asked[1]), -1);
            due("numbers", x.count(6), 0);
            // where it would be refused, or lost, too
            TraceRing y = Check.begun("pages 2; cells 12; refuse;", "take 0 8; take 3 8;");
            due("take(" + asked[0] + ", " + asked[1] + ") in 3", y.take(asked[0], asked[1]), -1);
            due("numbers", y.count(6), 2);
        }
        due("take(0, 1)", new TraceRing().take(0, 1), 1);
        due("take(3, 8)", new TraceRing().take(3, 8), 1);
        TraceRing x = Check.begun("pages 2; cells 12; refuse;", "take 0 8; take 1 8;");
        due("refused, without room", x.take(1, 8), -2);
        due("refused, with room", x.take(0, 1), -2);
        due("lost", x.take(2, 8), -3);
        due("numbers", x.count(6), 3);
    }

    private static void put() {
        says("PUT, 0 to 255: how many CELLS of DATA are left to be put");
        TraceRing x = Check.begun("", "take 2 8;");
        for (int i = 0; i < 8; i++) {
            due("put of the " + i + "th", x.put(2, i % 2 == 0 ? 255 : 0), 7 - i);
        }
        says("NONE: another number, the INNERMOST is not of that LEVEL, there is none, all have been put");
        due("all have been put", x.put(2, 1), -1);
        due("nothing comes behind them", x.cell(0, 9), 0);
        x = Check.begun("", "take 1 2; put 1 5; end 1;");
        for (int level = -2; level <= 4; level++) {
            due("put(" + level + ", 1), there is none any more", x.put(level, 1), -1);
        }
        Check.cells(x, 0, 32, 5, 0, 0);
        x = Check.begun("", "take 1 2;");
        int[] numbers = {-1, 256, MIN_VALUE, MAX_VALUE};
        for (int number : numbers) {
            due("put(1, " + number + ")", x.put(1, number), -1);
        }
        int[] levels = {0, 2, 3, -1, 4, MIN_VALUE, MAX_VALUE};
        for (int level : levels) {
            due("put(" + level + ", 1)", x.put(level, 1), -1);
        }
        due("nothing was put", x.open(0, 4), 0);
        Check.cells(x, 0, 32, 0, 0);
        for (int level = -2; level <= 4; level++) {
            due("put(" + level + ", 1), there is none", new TraceRing().put(level, 1), -1);
        }
        x.end(1);
        due("it was ended", x.put(1, 1), -1);
    }

    private static void end() {
        says("END: how many are OPEN then. NONE: the INNERMOST is not of that LEVEL, there is none");
        TraceRing x = Check.begun("", "take 0 1; take 1 1; take 2 1; take 3 1;");
        for (int open = 4; open > 0; open--) {
            for (int level = -1; level <= 4; level++) {
                if (level != open - 1) {
                    due("end(" + level + ")", x.end(level), -1);
                }
            }
            due("end(" + (open - 1) + ")", x.end(open - 1), open - 1);
        }
        for (int level = -1; level <= 4; level++) {
            due("end(" + level + "), there is none", x.end(level), -1);
        }
        due("end(MAX), end(MIN)", x.end(MAX_VALUE) + x.end(MIN_VALUE), -2);
    }

    private static void drop() {
        says("DROP: 0 its CELLS went, 1 it is a GAP. NONE: likewise");
        TraceRing x = Check.begun("", "take 0 1; take 1 1; take 2 1; end 2; take 2 1;");
        due("drop(0)", x.drop(0), -1);
        due("drop(1)", x.drop(1), -1);
        due("drop(3)", x.drop(3), -1);
        due("drop(-1)", x.drop(-1), -1);
        due("drop(2)", x.drop(2), 0);
        due("drop(2), it is not of that level any more", x.drop(2), -1);
        due("drop(1)", x.drop(1), 1);
        due("drop(0)", x.drop(0), 1);
        for (int level = -1; level <= 4; level++) {
            due("drop(" + level + "), there is none", x.drop(level), -1);
        }
        due("drop(MAX), drop(MIN)", x.drop(MAX_VALUE) + x.drop(MIN_VALUE), -2);
        due("dropped", x.count(9), 3);
    }

    private static void swap() {
        says("SWAP: how many RECORDS there are in the PAGE that the reader has then");
        due("one", Check.begun("", "take 0 1; end 0;").swap(true), 1);
        due("as many as can be", Check.begun("cells 32;", "take 0 1; end 0; ".repeat(16)).swap(true), 16);
        due("gaps are none", Check.begun("cells 12;", "take 0 8; take 1 8; end 1; drop 0;").swap(false), 0);
        due("a gap and a record", Check.begun("", "take 0 1; take 1 1; end 1; drop 0;").swap(true), 1);
        says("NONE: HEAD can not be had");
        due("empty", new TraceRing().swap(true), -1);
        due("empty", new TraceRing().swap(false), -1);
        due("the tail without force", Check.begun("", "take 0 1; end 0;").swap(false), -1);
        due("an open one is in it", Check.begun("", "take 0 1;").swap(true), -1);
        due("an open one is in it, it is not the tail", Check.begun("cells 12;", "take 0 8; take 1 8;").swap(true), -1);
    }

    private static void read() {
        says("READ: its NUMBER. NONE: there is none");
        TraceRing x = Check.begun("", "take 0 1; end 0; take 0 1; drop 0; take 0 1; end 0; force;");
        due("read", x.read(), 1);
        due("read", x.read(), 3);
        due("all were read", x.read(), -1);
        due("once more", x.read(), -1);
        due("read", x.count(11), 2);
        due("the latest is still that", x.latest(0), 3);
        due("an empty page", new TraceRing().read(), -1);
        due("what is ready in the ring is not read", Check.begun("", "take 0 1; end 0;").read(), -1);
        due("gaps alone", Check.begun("cells 12;", "take 0 8; take 1 8; end 1; drop 0; swap;").read(), -1);
    }

    private static void mode() {
        says("MODE is over, or refuse: true. false: it is so already");
        TraceRing x = new TraceRing();
        due("mode(true)", x.mode(true), false);
        due("mode(false)", x.mode(false), true);
        due("mode(false)", x.mode(false), false);
        due("count(2)", x.count(2), 0);
        due("mode(true)", x.mode(true), true);
        due("count(2)", x.count(2), 1);
        due("as it was told", Check.begun("refuse;").mode(false), false);
    }

    private static void mask() {
        says("MASK is another one, 0 to 15: true. false: it is that already, another number");
        TraceRing x = new TraceRing();
        int[] wrong = {15, 16, -1, MIN_VALUE, MAX_VALUE};
        for (int levels : wrong) {
            due("mask(" + levels + ")", x.mask(levels), false);
            due("count(40)", x.count(40), 15);
        }
        due("mask(0)", x.mask(0), true);
        due("mask(0) again", x.mask(0), false);
        due("count(40)", x.count(40), 0);
        due("mask(15)", x.mask(15), true);
        due("count(40)", x.count(40), 15);
    }

    private static void resize() {
        says("RESIZE, 2 to 6: how many RECORDS were OVERWRITTEN by it");
        due("to 2", new TraceRing().resize(2), 0);
        due("to 6", new TraceRing().resize(6), 0);
        TraceRing x = Check.begun("pages 6; cells 12;", "take 0 2; end 0; take 0 8; end 0; ".repeat(7));
        due("overwritten ahead of it", x.count(8), 2);
        due("from 6 to 2", x.resize(2), 8);
        due("overwritten", x.count(8), 10);
        due("to 6 again", x.resize(6), 0);
        resizeOfAllKinds();
        says("NONE: any is OPEN, there are as many PAGES, another number");
        int[] wrong = {3, 1, 7, 0, -1, MIN_VALUE, MAX_VALUE};
        for (int pages : wrong) {
            TraceRing y = new TraceRing();
            due("resize(" + pages + ")", y.resize(pages), -1);
            due("count(0)", y.count(0), 3);
        }
        x = Check.begun("", "take 3 1;");
        due("one is open", x.resize(2), -1);
        x.drop(3);
        due("none is open", x.resize(2), 0);
        due("there are as many", x.resize(2), -1);
    }

    /** From each number of pages to each other, the head at each place, each number of live ones. */
    private static void resizeOfAllKinds() {
        says("RESIZE, 2 to 6: how many RECORDS were OVERWRITTEN by it");
        for (int from = 2; from <= 6; from++) {
            for (int to = 2; to <= 6; to++) {
                for (int taken = 1; taken <= 2 * from && to != from; taken++) {
                    for (int had = 0; had <= 2; had++) {
                        resizeOf(from, to, taken, had);
                    }
                }
            }
        }
    }

    private static void resizeOf(int from, int to, int taken, int had) {
        TraceRing x = Check.begun("pages " + from + "; cells 12;", "take 0 8; end 0; ".repeat(taken));
        for (int i = 0; i < had; i++) {
            x.swap(false);
        }
        int live = x.count(5);
        int gone = Math.max(0, live - to);
        String told = "resize(" + to + ") of " + from + ", " + live + " live";
        due(told, x.resize(to), gone);
        due(told + ": live", x.count(5), live - gone);
        for (int k = 0; k < live - gone; k++) {
            due(told + ": place of " + k, x.page(k, 5), k);
            due(told + ": record of " + k, x.record(k, 0), taken - live + gone + 1 + k);
        }
        int overwritten = x.count(8);
        for (int k = live - gone; k < to; k++) {
            x.take(1, 8);
            x.end(1);
            due(told + ": place of the next, " + k, x.page(k, 5), k);
            due(told + ": it was empty", x.sum(k, 0, 12), 128);
        }
        due(told + ": none comes in place of another", x.count(8), overwritten);
        x.take(1, 8);
        due(told + ": then the first is", x.count(8), overwritten + 1);
        due(told + ": by place 0", x.page(to - 1, 5), 0);
    }

    private static void storm() {
        says("STORM, n times, 1 to 60: how many RECORDS were LOST by it. NONE: another n");
        int[] wrong = {0, 61, -1, MIN_VALUE, MAX_VALUE};
        for (int n : wrong) {
            TraceRing x = new TraceRing();
            due("storm(1, " + n + ")", x.storm(1, n), -1);
            Check.alike("storm(1, " + n + ")", x, new TraceRing());
        }
        boolean some = false;
        for (int seed = 1; seed <= 60; seed++) {
            TraceRing x = Check.begun("pages 2; cells 12; refuse;", "take 0 8; end 0; take 0 8; end 0; take 0 8;");
            int lost = x.storm(seed, 60);
            due("storm(" + seed + ", 60)", lost, x.count(7) - 1);
            some |= lost > 0;
            lost = x.count(7);
            due("once more", x.storm(-seed, 1), x.count(7) - lost);
        }
        due("some were lost", some, true);
    }

    private static void count() {
        says("NONE for another what");
        int[] wrong = {-1, -2, 24, 25, 29, 34, 35, 39, 41, 42, MIN_VALUE, MAX_VALUE};
        for (int what : wrong) {
            due("count(" + what + ")", busy().count(what), -1);
        }
        says("the longest time for which any RECORD was OPEN till its END (0: none was ended)");
        TraceRing x = Check.begun("", "take 0 1; tick 9; drop 0; take 0 1; tick 9;");
        due("none was ended", x.count(16), 0);
        due("its number", x.count(17), -1);
        Check.done(x, "end 0; take 0 1; end 0; take 0 1; tick 8; end 0;");
        due("the longest", x.count(16), 9);
        due("its number", x.count(17), 2);
        says("the NUMBER of the first one that was OPEN so long (NONE: none was ended)");
        due("ended at once", Check.begun("", "take 0 1; end 0;").count(17), 1);
        due("so is another", Check.begun("", "take 0 1; end 0; take 0 1; end 0;").count(17), 1);
        Check.done(x, "take 0 1; tick 9; end 0;");
        due("another as long", x.count(17), 2);
        Check.done(x, "take 0 1; tick 10; end 0;");
        due("a longer one", x.count(16) * 100 + x.count(17), 1006);
        countOfAll();
        sinceRing();
    }

    private static void countOfAll() {
        says("how many were OPEN at once at the most");
        due("none", new TraceRing().count(19), 0);
        due("one", Check.begun("", "take 0 1; end 0; take 0 1; end 0;").count(19), 1);
        due("four", Check.begun("", "take 0 1; take 1 1; take 2 1; take 3 1; end 3; end 2; end 1;").count(19), 4);
        due("two, then one", Check.begun("", "take 0 1; take 1 1; end 1; end 0; take 0 1; end 0;").count(19), 2);
        due("one that is lost is none", Check.begun("pages 2; cells 12;", "take 0 8; take 1 8; take 2 8;").count(19), 2);
        says("the greatest DELTA that was laid down");
        due("of first ones", Check.begun("cells 12;", "tick 9; take 0 8; end 0; tick 99; take 0 8;").count(18), 0);
        due("of two", Check.begun("", "take 0 1; end 0; tick 9; take 0 1; end 0; tick 5; take 0 1;").count(18), 9);
        due("of one that went", Check.begun("", "take 0 1; end 0; tick 99; take 0 1; drop 0;").count(18), 99);
        says("EXTENSIONS that were taken");
        due("by 15", Check.begun("", "take 0 1; end 0; tick 15; take 0 1;").count(13), 0);
        due("by 16", Check.begun("", "take 0 1; end 0; tick 16; take 0 1;").count(13), 1);
        due("of one that went", Check.begun("", "take 0 1; end 0; tick 99; take 0 1; drop 0;").count(13), 1);
        says("RECORDS that were TAKEN by a LEVEL, and not LOST, 30 + l: those that were LOST");
        for (int level = 0; level <= 3; level++) {
            TraceRing x = Check.begun("pages 2; cells 12; refuse;");
            for (int i = 0; i < 5; i++) {
                x.take(level, 8);
                x.end(level);
            }
            for (int other = 0; other <= 3; other++) {
                due("taken by " + other, x.count(20 + other), other == level ? 2 : 0);
                due("lost by " + other, x.count(30 + other), other == level ? 3 : 0);
            }
        }
        says("RECORDS that are READY in the RING");
        TraceRing x = Check.begun("cells 12;", "take 0 8; end 0; take 0 1; take 1 1; end 1;");
        due("ready", x.count(12), 1);
        x.drop(0);
        due("no gap", x.count(12), 2);
        x.swap(false);
        due("none of the reader's page", x.count(12), 1);
    }

    private static void sinceRing() {
        says("since ring()");
        TraceRing x = busy();
        x.storm(8, 60);
        Check.done(x, "mask 3;");
        due("ring()", x.ring(), 48);
        dueBegun(x, 3, 16, 1, 0);
        TraceRing y = busy();
        int given = y.count(6);
        due("a ring() of a fault", Check.ring(y, "over"), -1);
        due("is none", y.count(6), given);
    }

    private static void page() {
        says("STAMP (NONE: it is empty)");
        due("at first", new TraceRing().page(0, 0), -1);
        due("the reader's at first", new TraceRing().page(-1, 0), -1);
        due("begun at 0", Check.begun("", "take 0 1;").page(0, 0), 0);
        due("the reader's begun at 0", Check.begun("", "take 0 1; end 0; force;").page(-1, 0), 0);
        due("empty by a swap", Check.begun("", "take 0 1; end 0; force;").page(0, 0), -1);
        says("RECORDS in it (OPEN ones, too), 4: GAPS");
        TraceRing x = Check.begun("", "take 0 1; take 1 1; end 1; take 1 1;");
        due("records", x.page(0, 3), 3);
        due("gaps", x.page(0, 4), 0);
        Check.done(x, "end 1; drop 0;");
        due("records", x.page(0, 3), 2);
        due("gaps", x.page(0, 4), 1);
        says("which place in the RING it has, 0 on (NONE: the READER'S; at first HEAD has 0;"
            + " a PAGE that comes in by a SWAP has that of the one that goes)");
        due("at first", new TraceRing().page(0, 5), 0);
        due("the reader's", new TraceRing().page(-1, 5), -1);
        x = Check.begun("cells 12;", "take 0 8; end 0; ".repeat(3));
        due("places", x.page(0, 5) * 100 + x.page(1, 5) * 10 + x.page(2, 5), 12);
        Check.done(x, "swap; take 0 8; end 0;");
        due("places", x.page(0, 5) * 100 + x.page(1, 5) * 10 + x.page(2, 5), 120);
        due("the reader's", x.page(-1, 5), -1);
        says("-2: no such PAGE, another what");
        int[][] none = {{1, 0}, {1, 5}, {2, 1}, {3, 1}, {6, 1}, {-2, 1}, {-2, 5}, {MIN_VALUE, 1}, {MAX_VALUE, 1},
            {0, -1}, {0, 6}, {0, MIN_VALUE}, {0, MAX_VALUE}, {-1, -1}, {-1, 6}};
        for (int[] asked : none) {
            due("page(" + asked[0] + ", " + asked[1] + ")", new TraceRing().page(asked[0], asked[1]), -2);
        }
        due("page(3, 1) of three live ones", Check.begun("cells 12;", "take 0 8; end 0; ".repeat(3)).page(3, 1), -2);
    }

    private static void cell() {
        says("NONE: no such PAGE, CELL");
        for (int cells = 12; cells <= 32; cells += 4) {
            TraceRing x = Check.begun("cells " + cells + ";");
            due("the last cell", x.cell(0, cells - 1), 0);
            due("the reader's last cell", x.cell(-1, cells - 1), 0);
            due("behind the last", x.cell(0, cells), -1);
            due("behind the reader's last", x.cell(-1, cells), -1);
        }
        int[][] none = {{0, -1}, {0, 16}, {0, MAX_VALUE}, {0, MIN_VALUE}, {1, 0}, {-2, 0}, {3, 0}, {6, 0},
            {MAX_VALUE, 0}, {MIN_VALUE, 0}, {-1, -1}};
        for (int[] asked : none) {
            due("cell(" + asked[0] + ", " + asked[1] + ")", new TraceRing().cell(asked[0], asked[1]), -1);
        }
        TraceRing x = Check.begun("cells 12;", "take 0 8; put 0 3; end 0; take 0 8; put 0 4; end 0; swap;");
        due("the first of the head", x.cell(0, 1), 4);
        due("the reader's", x.cell(-1, 1), 3);
        due("no second page", x.cell(1, 1), -1);
    }

    private static void open() {
        says("the outermost first");
        TraceRing x = Check.begun("cells 12;", "take 0 8; tick 3; take 2 1; put 2 9; tick 16; take 3 8; put 3 1;");
        int[][] want = {{1, 0, 0, 8, 0, 0, 0}, {2, 2, 3, 1, 1, 0, 9}, {3, 3, 19, 8, 1, 1, 0}};
        for (int k = 0; k < want.length; k++) {
            for (int what = 0; what < 7; what++) {
                due("open(" + k + ", " + what + ")", x.open(k, what), want[k][what]);
            }
        }
        says("where its CELL ahead of DATA is");
        x = Check.begun("", "take 0 1; end 0; tick 16; take 0 1;");
        due("behind an extension", x.open(0, 6), 5);
        says("in which LIVE PAGE it is");
        x = Check.begun("cells 12;", "take 0 8; end 0; take 0 8; end 0; take 0 8;");
        due("the third", x.open(0, 5), 2);
        x.swap(false);
        due("the second, when one was had", x.open(0, 5), 1);
        x = Check.begun("cells 12;", "take 0 8; end 0; ".repeat(5) + "take 0 8;");
        due("its place is behind the head's", x.page(0, 5), 0);
        due("the third", x.open(0, 5), 2);
        x = Check.begun("cells 12;", "take 0 8; end 0; ".repeat(4) + "take 0 8;");
        due("its place is ahead of the head's", x.page(2, 5), 1);
        due("the third", x.open(0, 5), 2);
        says("-2: not so many, another what");
        x = Check.begun("", "take 0 1;");
        int[][] none = {{1, 0}, {-1, 0}, {4, 0}, {MAX_VALUE, 0}, {MIN_VALUE, 0}, {0, -1}, {0, 7}, {0, 10},
            {0, MAX_VALUE}, {0, MIN_VALUE}};
        for (int[] asked : none) {
            due("open(" + asked[0] + ", " + asked[1] + ")", x.open(asked[0], asked[1]), -2);
        }
        due("of none", new TraceRing().open(0, 0), -2);
        x.end(0);
        due("of one that was ended", x.open(0, 0), -2);
        due("four, the last", Check.begun("", "take 0 1;take 1 1;take 2 1;take 3 1;").open(3, 1), 3);
        due("behind four", Check.begun("", "take 0 1;take 1 1;take 2 1;take 3 1;").open(4, 1), -2);
    }

    private static void record() {
        says("Of the k-th RECORD that is READY in the RING, from the first one of HEAD on");
        TraceRing x = Check.begun("cells 12;", "take 0 8; end 0; ".repeat(4), "take 1 2;");
        due("the head's place", x.page(0, 5), 1);
        for (int k = 0; k < 3; k++) {
            due("record(" + k + ", 0)", x.record(k, 0), 2 + k);
        }
        due("an open one is not ready", x.record(3, 0), -2);
        x = Check.begun("", "take 0 2; take 1 1; end 1; drop 0; take 0 8; put 0 8; end 0;");
        due("a gap is none", x.record(0, 0), 2);
        due("the next", x.record(1, 0), 3);
        x.swap(true);
        due("the reader's are none", x.record(0, 0), -2);
        x = Check.begun("cells 12;", "take 0 2; take 1 1; end 1; drop 0; take 0 8; end 0; take 0 8; end 0;");
        due("behind a gap in the head", x.record(0, 0), 2);
        due("the first of the next page", x.record(1, 0), 3);
        due("the first of the third page", x.record(2, 0), 4);
        due("no more", x.record(3, 0), -2);
        says("10 + i: the i-th of them. -2: not so many, another what");
        for (int n = 1; n <= 8; n++) {
            x = Check.begun("", "take 1 " + n + ";" + " put 1 77;".repeat(n) + " end 1;");
            due("how many", x.record(0, 3), n);
            due("the last of " + n, x.record(0, 9 + n), 77);
            due("behind the last of " + n, x.record(0, 10 + n), -2);
        }
        int[][] none = {{0, 4}, {0, 5}, {0, 9}, {0, 18}, {0, -1}, {0, MAX_VALUE}, {0, MIN_VALUE}, {1, 0}, {-1, 0},
            {MAX_VALUE, 0}, {MIN_VALUE, 0}, {-1, 10}, {1, 10}};
        for (int[] asked : none) {
            due("record(" + asked[0] + ", " + asked[1] + ")", x.record(asked[0], asked[1]), -2);
        }
        due("of none", new TraceRing().record(0, 0), -2);
    }

    private static void latest() {
        says("-2: nothing was READ (but of 5), another what");
        int[] all = {0, 1, 2, 3, 4, 10, 17, 6, -1};
        TraceRing x = Check.begun("", "take 0 1; end 0; take 1 1; end 1; force;");
        for (int what : all) {
            due("latest(" + what + "), nothing was read", x.latest(what), -2);
        }
        due("latest(5)", x.latest(5), 2);
        due("latest(5) at first", new TraceRing().latest(5), 0);
        x.mask(0);
        x.read();
        due("latest(0) after a read of none", x.latest(0), -2);
        due("latest(5)", x.latest(5), 0);
        for (int n = 1; n <= 8; n++) {
            x = Check.begun("", "tick 4; take 3 " + n + ";" + " put 3 77;".repeat(n) + " end 3; force; read 1;");
            int[] want = {1, 3, 4, n, 0, 0};
            for (int what = 0; what < want.length; what++) {
                due("latest(" + what + ")", x.latest(what), want[what]);
            }
            due("the last of " + n, x.latest(9 + n), 77);
            due("behind the last of " + n, x.latest(10 + n), -2);
        }
        int[] none = {6, 7, 9, 18, -1, -2, MAX_VALUE, MIN_VALUE};
        for (int what : none) {
            due("latest(" + what + ")", x.latest(what), -2);
        }
        says("how many RECORDS of the READER'S PAGE are neither READ nor SKIPPED yet");
        x = Check.begun("", "take 0 1; take 1 1; end 1; take 2 1; end 2; drop 0; take 0 1; end 0; force;");
        due("no gap", x.latest(5), 3);
        x.mask(4);
        x.read();
        due("one was skipped, one was read", x.latest(5), 1);
        x.read();
        due("the last one was skipped", x.latest(5), 0);
        says("Of what was READ last");
        due("a read of none", x.latest(0), 3);
        Check.done(x, "take 0 8; put 0 1; end 0; force; take 1 1; end 1; force;");
        due("its page went", x.latest(0) * 100 + x.latest(1) * 10 + x.latest(3), 321);
        x.ring();
        due("after ring()", x.latest(0), -2);
    }

    private static void parsed() {
        says("how many lie there (i NONE, what 0)");
        TraceRing x = Check.begun("cells 20;", "take 0 3; tick 16; take 1 2; put 1 9; take 2 1; end 2; drop 1; end 0;");
        due("how many", x.parsed(0, -1, 0), 4);
        int[] wrong = {1, 2, 3, 4, 5, -1, MAX_VALUE, MIN_VALUE};
        for (int what : wrong) {
            due("parsed(0, -1, " + what + ")", x.parsed(0, -1, what), -2);
        }
        says("0 a RECORD, 1 a GAP, 2 an EXTENSION");
        int[][] want = {{0, 0, 4, 0, 3}, {2, 4, 3, 16, 0}, {1, 7, 3, 16, 2}, {0, 10, 2, 16, 1}};
        for (int i = 0; i < want.length; i++) {
            for (int what = 0; what < 5; what++) {
                due("parsed(0, " + i + ", " + what + ")", x.parsed(0, i, what), want[i][what]);
            }
        }
        says("its TIME, by the STAMP and what DELTAS tell; of an EXTENSION what it tells");
        x = Check.begun("cells 32;", "tick 100; take 0 1; end 0; tick 15; take 0 1; end 0; tick 5000; take 0 1; end 0;",
            "tick 1; take 0 1; end 0;");
        int[] times = {100, 115, 5000, 5115, 5116};
        for (int i = 0; i < times.length; i++) {
            due("parsed(0, " + i + ", 3)", x.parsed(0, i, 3), times[i]);
        }
        says("-2: no such PAGE, not so many, another what");
        int[][] none = {{0, 5, 0}, {0, -2, 0}, {0, MAX_VALUE, 0}, {0, MIN_VALUE, 0}, {0, 0, 5}, {0, 0, -1},
            {0, 2, 5}, {0, 0, MAX_VALUE}, {0, 0, MIN_VALUE}, {1, 0, 0}, {1, -1, 0}, {-2, -1, 0}, {-2, 0, 0},
            {MAX_VALUE, -1, 0}, {MIN_VALUE, -1, 0}, {-1, 0, 0}};
        for (int[] asked : none) {
            due("parsed(" + asked[0] + ", " + asked[1] + ", " + asked[2] + ")",
                x.parsed(asked[0], asked[1], asked[2]), -2);
        }
        due("the empty reader's", x.parsed(-1, -1, 0), 0);
        x.swap(true);
        due("the reader's", x.parsed(-1, 4, 3), 5116);
        due("the head is empty", x.parsed(0, -1, 0), 0);
        due("nothing lies there", x.parsed(0, 0, 3), -2);
    }

    private static void between() {
        says("RECORDS that are READY in the RING with a TIME of from to to: how many");
        TraceRing x = Check.begun("pages 4; cells 12;", "tick 10; take 0 8; end 0; tick 10; take 0 8; end 0; take 0 1; end 0;",
            "tick 10; take 0 8; take 1 1; end 1; drop 0; tick 10; take 0 1;");
        int[][] asked = {{10, 30, 4, 0}, {10, 10, 1, 0}, {9, 11, 1, 0}, {11, 19, 0, -1}, {11, 20, 2, 1}, {20, 20, 2, 1},
            {21, 29, 0, -1}, {30, 30, 1, 3}, {40, 40, 0, -1}, {30, 10, 0, -1}, {0, 9, 0, -1}, {-5, -1, 0, -1},
            {MIN_VALUE, MAX_VALUE, 4, 0}, {MAX_VALUE, MIN_VALUE, 0, -1}, {MIN_VALUE, 10, 1, 0}, {30, MAX_VALUE, 1, 3}};
        for (int[] row : asked) {
            due("between(" + row[0] + ", " + row[1] + ", false)", x.between(row[0], row[1], false), row[2]);
        }
        says("which place the first one has among all that are READY (NONE: none)");
        for (int[] row : asked) {
            due("between(" + row[0] + ", " + row[1] + ", true)", x.between(row[0], row[1], true), row[3]);
        }
        due("of none", new TraceRing().between(0, 0, true), -1);
        due("of none", new TraceRing().between(0, 0, false), 0);
        x.swap(false);
        due("the reader's are none", x.between(10, 10, false), 0);
        due("places from the new head on", x.between(30, 30, true), 2);
    }

    private static void sum() {
        says("So many CELLS of such a PAGE (as page()) from one on, together");
        TraceRing x = Check.begun("cells 12;", "take 0 8;" + " put 0 255;".repeat(8) + " end 0; take 0 2; put 0 1;");
        due("all of them", x.sum(0, 0, 12), 128 + 8 * 255 + 32 + 1);
        due("the first alone", x.sum(0, 0, 1), 128);
        due("two in the midst", x.sum(0, 8, 2), 255 + 32);
        due("the last alone", x.sum(0, 11, 1), 0);
        due("none of them", x.sum(0, 5, 0), 0);
        due("none behind the last", x.sum(0, 12, 0), 0);
        due("the reader's", x.sum(-1, 0, 12), 0);
        says("NONE: no such PAGE, many is below 0, from is below 0, both together are more than its CELLS");
        int[][] none = {{1, 0, 0}, {-2, 0, 0}, {MAX_VALUE, 0, 0}, {MIN_VALUE, 0, 0}, {0, 0, -1}, {0, -1, 0}, {0, -1, 5},
            {0, 5, -1}, {0, 0, 13}, {0, 12, 1}, {0, 13, 0}, {0, 1, 12}, {0, MAX_VALUE, 1}, {0, 1, MAX_VALUE},
            {0, MAX_VALUE, MAX_VALUE}, {0, MIN_VALUE, 1}, {0, 1, MIN_VALUE}, {0, MAX_VALUE, MIN_VALUE},
            {-1, 0, 13}, {-1, -1, 1}};
        for (int[] row : none) {
            due("sum(" + row[0] + ", " + row[1] + ", " + row[2] + ")", x.sum(row[0], row[1], row[2]), -1);
        }
        x = Check.begun("cells 12;", "take 0 8; end 0; take 0 8; put 0 2; end 0;");
        due("of the second", x.sum(1, 0, 12), 130);
        due("of no third", x.sum(2, 0, 12), -1);
    }

    private static void would() {
        says("0 it has room in TAIL");
        due("in an empty one", new TraceRing().would(0, 8), 0);
        due("to the last cell", Check.begun("cells 12;", "take 0 8; end 0;").would(3, 2), 0);
        due("with an extension to the last cell", Check.begun("cells 12;", "take 0 4; end 0; tick 16;").would(3, 3), 0);
        due("without one, by 15", Check.begun("cells 12;", "take 0 4; end 0; tick 15;").would(3, 6), 0);
        due("empty by a drop, none else is", Check.begun("pages 2; cells 12;", "take 0 8; end 0; take 0 8; drop 0;")
            .would(0, 8), 0);
        says("1 it begins an empty PAGE");
        due("one too many", Check.begun("cells 12;", "take 0 8; end 0;").would(3, 3), 1);
        due("with an extension one too many", Check.begun("cells 12;", "take 0 4; end 0; tick 16;").would(3, 4), 1);
        due("the last empty one", Check.begun("cells 12;", "take 0 8; end 0; take 0 8; end 0;").would(3, 8), 1);
        due("in refuse, too", Check.begun("cells 12; refuse;", "take 0 8; end 0;").would(3, 8), 1);
        due("one that came in by a swap",
            Check.begun("pages 2; cells 12;", "take 0 8; end 0; take 0 8; end 0; swap;").would(0, 8), 1);
        says("2 it would overwrite one, -2, -3 as take()");
        String full = "take 0 8; end 0; take 0 8; end 0;";
        due("over", Check.begun("pages 2; cells 12;", full).would(3, 8), 2);
        due("refuse", Check.begun("pages 2; cells 12; refuse;", full).would(3, 8), -3);
        due("gaps alone", Check.begun("pages 2; cells 12;", "take 0 8; take 1 8; end 1; drop 0;").would(3, 8), 2);
        due("an open one is there", Check.begun("pages 2; cells 12;", "take 0 8; take 1 8;").would(2, 8), -3);
        due("refused", Check.begun("pages 2; cells 12;", "take 0 8; take 1 8;").would(1, 8), -2);
        due("refused with room", Check.begun("", "take 1 1;").would(0, 1), -2);
        due("the same level", Check.begun("", "take 1 1;").would(1, 1), -2);
        due("the next level", Check.begun("", "take 1 1;").would(2, 1), 0);
        says("NONE: likewise");
        int[][] none = {{-1, 1}, {4, 1}, {0, 0}, {0, 9}, {MIN_VALUE, 1}, {MAX_VALUE, 1}, {0, MIN_VALUE}, {0, MAX_VALUE}};
        for (int[] asked : none) {
            due("would(" + asked[0] + ", " + asked[1] + ")", new TraceRing().would(asked[0], asked[1]), -1);
            due("would(" + asked[0] + ", " + asked[1] + ") in 3",
                Check.begun("", "take 3 1;").would(asked[0], asked[1]), -1);
        }
    }

    private static void room() {
        says("How many RECORDS of n CELLS of DATA, 1 to 8");
        for (int n = 1; n <= 8; n++) {
            due("room(" + n + ")", new TraceRing().room(n), 3 * (16 / (1 + n)));
            due("room(" + n + ") of the most", Check.begun("pages 6; cells 32;").room(n), 6 * (32 / (1 + n)));
            due("room(" + n + ") of the fewest", Check.begun("pages 2; cells 12;").room(n), 2 * (12 / (1 + n)));
        }
        due("an extension for the first alone", Check.begun("cells 12;", "take 0 1; end 0; tick 16;").room(1), 3 + 12);
        due("by 15 there is none", Check.begun("cells 12;", "take 0 1; end 0; tick 15;").room(1), 5 + 12);
        due("no room with its extension", Check.begun("cells 12;", "take 0 8; end 0; tick 16;").room(1), 12);
        due("room without one", Check.begun("cells 12;", "take 0 8; end 0; tick 15;").room(1), 1 + 12);
        due("an open one ahead", Check.begun("cells 12;", "take 2 8;").room(2), 1 + 8);
        says("till one is LOST, or comes in place of a PAGE (HEAD) in which anything lies (be it GAPS alone)");
        due("lost at once", Check.begun("pages 2; cells 12; refuse;", "take 0 8; end 0; take 0 8; end 0;").room(3), 0);
        due("over", Check.begun("pages 2; cells 12;", "take 0 8; end 0; take 0 8; end 0;").room(3), 0);
        due("over, with room in the tail", Check.begun("pages 2; cells 12;", "take 0 8; end 0; take 0 8; end 0;").room(2), 1);
        due("an open one in the head", Check.begun("pages 2; cells 12;", "take 0 8; take 1 8;").room(3), 0);
        due("gaps alone", Check.begun("pages 2; cells 12;", "take 0 8; take 1 8; end 1; drop 0;").room(3), 0);
        due("the head is had", Check.begun("pages 2; cells 12;", "take 0 8; end 0; take 0 8; end 0; swap;").room(3), 3);
        due("the tail is empty", Check.begun("pages 2; cells 12;", "take 0 8; end 0; take 0 8; drop 0;").room(3), 3);
        says("NONE: another n, LEVEL 3 would be REFUSED");
        int[] wrong = {0, 9, -1, MIN_VALUE, MAX_VALUE};
        for (int n : wrong) {
            due("room(" + n + ")", new TraceRing().room(n), -1);
        }
        due("a 3 is open", Check.begun("", "take 3 1;").room(1), -1);
        due("a 3 is open in a 2", Check.begun("", "take 2 1; take 3 1;").room(1), -1);
        due("a 2 is open", Check.begun("", "take 2 1;").room(1), 7 + 16);
        due("a 3 was ended", Check.begun("", "take 3 1; end 3;").room(1), 7 + 16);
    }

    private static void after() {
        says("STORM, n times, 1 to 60, tried (nothing stays): what as count() then");
        for (int seed = -3; seed <= 3; seed++) {
            int[] often = {1, 2, 59, 60};
            for (int n : often) {
                TraceRing x = busy();
                TraceRing y = busy();
                x.tell(0x6100000000000000L);
                y.tell(0x6100000000000000L);
                y.storm(seed, n);
                for (int what = 0; what <= 40; what++) {
                    due("after(" + seed + ", " + n + ", " + what + ")", x.after(seed, n, what), y.count(what));
                }
                x.storm(seed, n);
                Check.alike("the storm itself then", x, y);
            }
        }
        says("NONE: another n, another what");
        int[] wrong = {0, 61, -1, MIN_VALUE, MAX_VALUE};
        for (int n : wrong) {
            due("after(1, " + n + ", 0)", busy().after(1, n, 0), -1);
            due("after(1, " + n + ", 15)", busy().after(1, n, 15), -1);
        }
        int[] wrongWhat = {-1, 24, 29, 34, 39, 41, MIN_VALUE, MAX_VALUE};
        for (int what : wrongWhat) {
            due("after(1, 60, " + what + ")", busy().after(1, 60, what), -1);
        }
    }

    private static void fewest() {
        says("The fewest PAGES, 2 to 6, so that by a STORM, n times, 1 to 60, from the beginning,"
            + " CELLS and MODE as they are, nothing is LOST or OVERWRITTEN. NONE: none, another n");
        boolean[] seen = new boolean[7];
        String[] rings = {"cells 12;", "cells 12; refuse;", "cells 20;", "cells 32; refuse;"};
        for (String ring : rings) {
            for (int seed = 1; seed <= 120; seed++) {
                int want = fewestByTrying(ring, seed, 60);
                seen[Math.max(0, want)] = true;
                due("fewest(" + seed + ", 60) of " + ring, Check.begun(ring + "pages 2;").fewest(seed, 60), want);
            }
        }
        for (int pages = 2; pages <= 6; pages++) {
            due(pages + " are seen", seen[pages], true);
        }
        due("none is seen", seen[0], true);
        due("n is 1", new TraceRing().fewest(1, 1), 2);
        int[] wrong = {0, 61, -1, MIN_VALUE, MAX_VALUE};
        for (int n : wrong) {
            due("fewest(1, " + n + ")", new TraceRing().fewest(1, n), -1);
        }
        TraceRing late = atTime(999999);
        Check.done(late, "take 0 8; take 1 8; take 2 8; mask 0;");
        for (int seed = 1; seed <= 20; seed++) {
            due("from the beginning, whatever is now", late.fewest(seed, 60), fewestByTrying("", seed, 60));
        }
        TraceRing over = Check.begun("cells 12;");
        over.mode(false);
        for (int seed = 1; seed <= 20; seed++) {
            due("the mode as it is now", over.fewest(seed, 60), fewestByTrying("cells 12; refuse;", seed, 60));
        }
    }

    private static int fewestByTrying(String ring, int seed, int n) {
        for (int pages = 2; pages <= 6; pages++) {
            TraceRing x = Check.begun(ring + "pages " + pages + ";");
            if (x.storm(seed, n) == 0 && x.count(8) == 0) {
                return pages;
            }
        }
        return -1;
    }

    private static void image() {
        says("All that there is (THE TEXT, the FAULT, too) is kept as k, 0 to 2: true; false for another k");
        int[] wrong = {-1, 3, MIN_VALUE, MAX_VALUE};
        for (int k : wrong) {
            due("image(" + k + ")", busy().image(k), false);
            due("again(" + k + ")", busy().again(k), false);
        }
        for (int k = 0; k <= 2; k++) {
            TraceRing x = busy();
            Check.script(x, "tick 0;");
            x.tell(0x6f76000000000000L);
            due("image(" + k + ")", x.image(k), true);
            due("another text", Check.ring(x, "xx"), -1);
            due("another ring", Check.ring(x, "pages 6; refuse; cells 32;"), 192);
            x.storm(3, 60);
            due("again(" + k + ")", x.again(k), true);
            Check.fault(x, 2, 5);
            due("bytes", x.count(15), 2);
            x.tell(0x65723b0000000000L);
            due("the text as it was", x.ring(), 48);
            x.again(k);
            TraceRing y = busy();
            Check.script(y, "tick 0;");
            y.tell(0x6f76000000000000L);
            Check.alike("again(" + k + ")", x, y);
            due("put goes on", x.put(2, 4), y.put(2, 4));
            due("read goes on", x.read(), y.read());
            due("end", x.end(2) + x.end(0), y.end(2) + y.end(0));
            due("resize", x.resize(2), y.resize(2));
            due("storm", x.storm(99, 60), y.storm(99, 60));
            Check.alike("after again(" + k + ")", x, y);
        }
        imageOfAllKinds();
    }

    private static void imageOfAllKinds() {
        says("All is as it was kept as k");
        TraceRing x = Check.begun("pages 4; cells 20; refuse;",
            "take 0 3; take 1 1; end 1; drop 0; tick 16; take 2 2; drop 2;",
            "take 2 2; put 2 8; end 2; force; read 1; mask 12; read 1;");
        Check.done(x, "take 0 2; take 3 1; end 3; drop 0; tick 16; take 1 2; put 1 7;");
        x.image(1);
        Check.ring(x, "pages 6;");
        Check.done(x, "take 3 8; end 3; tick 40; take 0 8; put 0 200; end 0; force; read 1; take 2 5; end 2;");
        due("again(1)", x.again(1), true);
        due("mode", x.count(2), 0);
        due("pages", x.count(0), 4);
        due("the mask", x.count(40), 12);
        int[] read = {4, 2, 16, 2, 1};
        for (int what = 0; what < read.length; what++) {
            due("latest(" + what + ")", x.latest(what), read[what]);
        }
        due("latest(10)", x.latest(10), 8);
        due("the reader's gap", x.page(-1, 4), 1);
        due("the head's gap", x.page(0, 4), 1);
        Check.cells(x, 0, 224, 2, 0, 16, 0, 240, 1, 0, 32, 7, 0, 0);
        due("drop of the open one", x.drop(1), 0);
        Check.cells(x, 0, 224, 2, 0, 16, 0, 0, 0, 0, 0, 0, 0, 0);
        due("used", x.page(0, 1), 5);
        Check.done(x, "force; tick 1;");
        due("all ahead of it were read", x.count(10), 0);
        due("read by the mask", x.read(), 6);
        due("missing", x.latest(4), 1);
    }

    private static void again() {
        says("All is as it was kept as k: true; false if there is none such");
        TraceRing x = new TraceRing();
        for (int k = -1; k <= 3; k++) {
            due("again(" + k + ")", x.again(k), false);
        }
        x.tick(1);
        x.image(0);
        due("none was kept as 1", x.again(1), false);
        x.tick(1);
        x.image(1);
        x.tick(1);
        x.image(2);
        due("again(0)", x.again(0), true);
        due("now", x.count(3), 1);
        due("again(2)", x.again(2), true);
        due("now", x.count(3), 3);
        due("again(1)", x.again(1), true);
        due("now", x.count(3), 2);
        x.tick(50);
        due("what came again stays kept", x.again(1), true);
        due("now", x.count(3), 2);
        x.image(0);
        x.tick(50);
        due("the later one is kept", x.again(0), true);
        due("now", x.count(3), 2);
        x.ring();
        due("after ring()", x.again(2), true);
        due("now", x.count(3), 3);
    }
}
