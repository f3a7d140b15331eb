/** For each promise of the document what it says, by hand: ordinary calls, edges, wrong ones. */
public final class PromiseTest {
    public static void main(String[] args) {
        promise1NewObject();
        promise2Tell();
        promise3Ring();
        promise4Script();
        promise4Refusals();
        promise5Fault();
        promise5FaultOfNumbers();
        promise6Tick();
        promise7Take();
        promise7Extension();
        promise7Lost();
        promise7Overwritten();
        promise8Put();
        promise9End();
        promise10Drop();
        promise10DropInOtherPage();
        promise11Swap();
        promise12Read();
        promise13Mode();
        promise14Mask();
        promise15Resize();
        promise16Storm();
        promise17Count();
        promise18Page();
        promise19Cell();
        promise20Open();
        promise21Record();
        promise22Latest();
        promise23Parsed();
        promise24Between();
        promise25Sum();
        promise26Would();
        promise27Room();
        promise28After();
        promise29Fewest();
        promise30and31Images();
        constants();
        Check.finish();
    }

    private static void due(String call, long got, long want) {
        Check.due(call, got, want);
    }

    private static void due(String call, boolean got, boolean want) {
        Check.due(call, got, want);
    }

    private static void dueScript(TraceRing x, String text, int lines) {
        due("script of \"" + text + "\"", Check.script(x, text), lines);
    }

    private static void dueRing(TraceRing x, String text, int cells) {
        due("ring of \"" + text + "\"", Check.ring(x, text), cells);
    }

    private static void dueFault(TraceRing x, int fault, int place) {
        due("fault(false)", x.fault(false), fault);
        due("fault(true)", x.fault(true), place);
    }

    private static void dueCells(TraceRing x, int k, int... cells) {
        for (int i = 0; i < cells.length; i++) {
            due("cell(" + k + ", " + i + ")", x.cell(k, i), cells[i]);
        }
    }

    private static void dueAsNew(TraceRing x, int pages, int cells, int over) {
        int[] counts = {pages, cells, over, 0, 0, 1, 0, 0, 0, 0, 0, 0, 0, 0, 0, 0, 0, -1, 0, 0, 0, 0, 0, 0};
        for (int what = 0; what < counts.length; what++) {
            due("new: count(" + what + ")", x.count(what), counts[what]);
        }
        for (int l = 0; l < 4; l++) {
            due("new: count(30 + " + l + ")", x.count(30 + l), 0);
        }
        due("new: count(40)", x.count(40), 15);
        for (int k = -1; k <= 0; k++) {
            due("new: page(k, 0)", x.page(k, 0), -1);
            for (int what = 1; what <= 4; what++) {
                due("new: page(k, " + what + ")", x.page(k, what), 0);
            }
            due("new: page(k, 5)", x.page(k, 5), k);
            due("new: sum", x.sum(k, 0, cells), 0);
        }
        due("new: page(1, 1)", x.page(1, 1), -2);
        due("new: open(0, 0)", x.open(0, 0), -2);
        due("new: record(0, 0)", x.record(0, 0), -2);
        due("new: latest(0)", x.latest(0), -2);
        due("new: latest(5)", x.latest(5), 0);
        due("new: read()", x.read(), -1);
        due("new: swap(true)", x.swap(true), -1);
        due("new: end(0)", x.end(0), -1);
    }

    private static void promise1NewObject() {
        TraceRing x = new TraceRing();
        dueFault(x, 0, -1);
        dueAsNew(x, 3, 16, 1);
        due("again(0)", x.again(0), false);
    }

    private static void promise2Tell() {
        TraceRing x = new TraceRing();
        due("tell of eight", x.tell(0x6162636465666768L), 8);
        due("tell of two, then 0", x.tell(0x6162006465666768L), 10);
        due("tell of 0", x.tell(0), 10);
        due("tell of 0 first", x.tell(0x0062636465666768L), 10);
        due("tell of bytes above 127", x.tell(-1), 18);
        due("tell of one", x.tell(0x6100000000000000L), 19);
        for (int i = 0; i < 47; i++) {
            x.tell(0x2020202020202020L);
        }
        due("count(15)", x.count(15), 395);
        due("tell of eight too many", x.tell(0x2020202020202020L), -1);
        due("tell of six too many", x.tell(0x2020202020200000L), -1);
        due("count(15) after that", x.count(15), 395);
        due("tell up to 400", x.tell(0x2020202020000000L), 400);
        due("tell of one more", x.tell(0x2000000000000000L), -1);
        due("tell of none at 400", x.tell(0), 400);
        due("ring of that", x.ring(), -1);
        dueFault(x, 1, 0);
        due("the text is empty", x.count(15), 0);
    }

    private static void promise3Ring() {
        TraceRing x = new TraceRing();
        dueRing(x, "", 48);
        dueRing(x, "pages 2; cells 12;", 24);
        dueAsNew(x, 2, 12, 1);
        dueRing(x, "refuse;cells32;pages\n006 ;", 192);
        dueAsNew(x, 6, 32, 0);
        dueRing(x, "pages 2; over; pages 5; refuse; over; cells 20; cells 13;", 65);
        dueAsNew(x, 5, 13, 1);
        dueRing(x, "refuse;", 48);
        due("mode is refuse", x.count(2), 0);
        x.image(1);
        x.storm(7, 60);
        x.storm(8, 60);
        x.mask(3);
        dueRing(x, "pages 3", -1);
        dueFault(x, 1, 7);
        due("a fault: the text goes", x.count(15), 0);
        due("a fault: the mask stays", x.count(40), 3);
        due("a fault: the numbers stay", x.count(6) > 0, true);
        dueRing(x, "", 48);
        dueAsNew(x, 3, 16, 1);
        dueFault(x, 0, -1);
        due("what is kept stays", x.again(1), true);
        due("mode as kept", x.count(2), 0);
        x.take(0, 2);
        x.end(0);
        x.swap(true);
        x.read();
        dueRing(x, "", 48);
        dueAsNew(x, 3, 16, 1);
        x.take(0, 1);
        due("numbers begin anew", x.open(0, 0), 1);
    }

    private static void promise4Script() {
        TraceRing x = new TraceRing();
        dueScript(x, "", 0);
        dueScript(x, "tick 5; take 0 2; put 0 200; take 2 1; put 2 7; end 2; put 0 9; end 0;", 8);
        due("now", x.count(3), 5);
        dueCells(x, 0, 32, 200, 9, 16, 7, 0);
        due("ready", x.page(0, 2), 5);
        due("the text is empty", x.count(15), 0);
        dueScript(x, "tick1;take 0 1;drop 0;force;read 99;mask 3;resize 2;", 7);
        due("read", x.count(11), 2);
        due("latest", x.latest(0), 2);
        due("mask", x.count(40), 3);
        due("pages", x.count(0), 2);
        dueScript(x, "take 0 1; take 0 1; end 0;", 1);
        due("the end was not done", x.count(4), 1);
        dueScript(x, "end 0; pages 3;", -1);
        due("a fault: nothing is done", x.count(4), 1);
        due("a fault: the text is empty", x.count(15), 0);
        // LOST is not refused
        dueRing(x, "pages 2; cells 12; refuse;", 24);
        dueScript(x, "take 0 8; end 0; take 0 8; end 0; take 0 8; take 1 8; tick 3;", 7);
        due("lost", x.count(7), 2);
        dueScript(x, "swap; take 0 8; end 0; swap; swap; tick 5;", 4);
        due("tick was not done", x.count(3), 3);
    }

    private static void promise4Refusals() {
        TraceRing x = new TraceRing();
        dueScript(x, "read 2; tick 1;", 0);
        dueScript(x, "mask 15; tick 1;", 0);
        dueScript(x, "resize 3; tick 1;", 0);
        dueScript(x, "swap; tick 1;", 0);
        dueScript(x, "force; tick 1;", 0);
        dueScript(x, "put 0 0; tick 1;", 0);
        dueScript(x, "end 0; tick 1;", 0);
        dueScript(x, "drop 0; tick 1;", 0);
        dueScript(x, "take 1 1; put 1 5; put 1 5; tick 1;", 2);
        dueScript(x, "end 0; tick 1;", 0);
        dueScript(x, "drop 2; tick 1;", 0);
        dueScript(x, "resize 2; tick 1;", 0);
        dueScript(x, "take 1 1; tick 1;", 0);
        dueScript(x, "end 1; force; read 3; read 1; tick 1;", 3);
        due("now", x.count(3), 0);
        // a read that finds none skips what it passes over, and is refused
        dueScript(x, "take 0 1; end 0; take 0 1; end 0; mask 2; force; read 1; tick 1;", 6);
        due("skipped", x.count(10), 2);
        // once anything is read, a read is done, and what lies behind is passed over
        dueScript(x, "take 1 1; end 1; take 0 1; end 0; force; read 2; tick 1;", 7);
        due("skipped behind", x.count(10), 3);
        for (int i = 0; i < 199; i++) {
            x.tick(5000);
        }
        dueScript(x, "tick 4998; tick 1; mask 1;", 1);
        due("now at its end", x.count(3), 999999);
    }

    private static void promise5Fault() {
        TraceRing x = new TraceRing();
        String[] texts = {
            "tick", "tick 5", "tick 5 ", "tick 5; ;", "tick; 5", "tick 1234567;", "tick 5 6;", "Tick 5;",
            "take 1;", "swap 1;", " \n over;", "swap;swa;", "tick 5;\ttick 5;", "ticks 5;", "5", "take 0 1, ;",
            "tick 0000005;", "tick a;", "swap;;", "forceswap;", "swap ;1234567"};
        int[] places = {
            4, 6, 7, 8, 4, 5, 7, 0,
            6, 5, 3, 5, 7, 0, 0, 8,
            5, 5, 5, 0, 6};
        for (int i = 0; i < texts.length; i++) {
            dueScript(x, texts[i], -1);
            dueFault(x, 1, places[i]);
        }
        dueScript(x, "tick000005;", 1);
        dueFault(x, 0, -1);
        x.tell(0x8000000000000000L);
        due("a byte above 127", x.script(), -1);
        dueFault(x, 1, 0);
        String[] rings = {"pages", "cells 12 12;", "over 1;", "swap;", "refuse", "pages 2;tick 5;", ";"};
        int[] ringPlaces = {5, 9, 5, 0, 6, 8, 0};
        for (int i = 0; i < rings.length; i++) {
            dueRing(x, rings[i], -1);
            dueFault(x, 1, ringPlaces[i]);
        }
        dueRing(x, "over;refuse;", 48);
        dueFault(x, 0, -1);
    }

    private static void promise5FaultOfNumbers() {
        TraceRing x = new TraceRing();
        String[] wrong = {
            "tick 0;", "tick 5001;", "take 4 1;", "take 0 0;", "take 0 9;", "put 4 0;", "put 0 256;", "end 4;",
            "drop 4;", "read 0;", "read 100;", "mask 16;", "resize 1;", "resize 7;", "swap; tick 999999; end 9;"};
        int[] places = {5, 5, 5, 7, 7, 4, 6, 4, 5, 5, 5, 5, 7, 7, 11};
        for (int i = 0; i < wrong.length; i++) {
            dueScript(x, wrong[i], -1);
            dueFault(x, 2, places[i]);
        }
        // the first fault of tokens goes ahead of all of numbers
        dueScript(x, "tick 0; swap", -1);
        dueFault(x, 1, 12);
        String[] wrongRings = {"pages 1;", "pages 7;", "cells 11;", "cells 33;", "pages 9; pages 3;"};
        for (String text : wrongRings) {
            dueRing(x, text, -1);
            dueFault(x, 2, 6);
        }
        String[] right = {"tick 1;", "tick 5000;", "take 0 1;", "take 3 8;", "put 3 0;", "put 3 255;", "end 3;",
            "drop 0;"};
        for (String text : right) {
            dueScript(x, text, 1);
            dueFault(x, 0, -1);
        }
        dueScript(x, "read 99;", 0);
        dueFault(x, 0, -1);
        dueScript(x, "mask 0;mask 15;resize 2;resize 6;", 4);
        dueRing(x, "pages 2;", 32);
        dueRing(x, "pages 6;cells 12;", 72);
        dueRing(x, "cells 32;", 96);
    }

    private static void promise6Tick() {
        TraceRing x = new TraceRing();
        due("tick(0)", x.tick(0), -1);
        due("tick(5001)", x.tick(5001), -1);
        due("tick(-1)", x.tick(-1), -1);
        due("tick(MAX)", x.tick(Integer.MAX_VALUE), -1);
        due("tick(1)", x.tick(1), 1);
        due("tick(5000)", x.tick(5000), 5001);
        for (int i = 0; i < 198; i++) {
            x.tick(5000);
        }
        due("now", x.count(3), 995001);
        due("tick beyond the end", x.tick(4999), -1);
        due("tick to the end", x.tick(4998), 999999);
        due("tick at the end", x.tick(1), -1);
        due("now at the end", x.count(3), 999999);
    }

    private static void promise7Take() {
        TraceRing x = new TraceRing();
        due("take(-1, 1)", x.take(-1, 1), -1);
        due("take(4, 1)", x.take(4, 1), -1);
        due("take(0, 0)", x.take(0, 0), -1);
        due("take(0, 9)", x.take(0, 9), -1);
        due("numbers", x.count(6), 0);
        due("take(1, 2)", x.take(1, 2), 1);
        due("take(1, 2)", x.take(1, 2), -2);
        due("take(0, 2)", x.take(0, 2), -2);
        due("numbers", x.count(6), 1);
        x.tick(15);
        due("take(2, 1)", x.take(2, 1), 2);
        due("take(3, 3)", x.take(3, 3), 3);
        due("take(3, 3)", x.take(3, 3), -2);
        dueCells(x, 0, 32, 0, 0, 31, 0, 48, 0, 0, 0, 0);
        due("used", x.page(0, 1), 9);
        due("ready", x.page(0, 2), 0);
        due("open", x.count(4), 3);
        x.end(3);
        // seven cells are left: eight are one too many, and the page left behind has its 0
        due("take(3, 7)", x.take(3, 7), 4);
        due("live", x.count(5), 2);
        due("used in the next", x.page(1, 1), 8);
        dueCells(x, 1, 112, 0);
        due("cell left behind", x.cell(0, 9), 0);
        x.end(3);
        due("that fits to the last cell", x.take(3, 7), 5);
        due("used in the next", x.page(1, 1), 16);
    }

    private static void promise7Extension() {
        TraceRing x = new TraceRing();
        x.tick(4000);
        x.take(0, 1);
        x.end(0);
        dueCells(x, 0, 16, 0);
        due("the stamp", x.page(0, 0), 4000);
        x.tick(16);
        x.take(0, 1);
        x.end(0);
        dueCells(x, 0, 16, 0, 240, 1, 0, 16, 0);
        x.tick(4999);
        x.tick(3195);
        x.take(0, 2);
        // 8194 is 2 and 16 * 0 and 4096 * 2
        dueCells(x, 0, 16, 0, 240, 1, 0, 16, 0, 242, 0, 2, 32, 0, 0);
        due("extensions", x.count(13), 2);
        due("greatest delta", x.count(18), 8194);
        x.drop(0);
        dueCells(x, 0, 16, 0, 240, 1, 0, 16, 0, 0, 0, 0, 0, 0, 0);
        due("used ahead of it", x.page(0, 1), 7);
        due("extensions that were taken", x.count(13), 2);
        x.tick(3);
        x.take(0, 2);
        due("delta by what is ahead then", x.parsed(0, 3, 3), 8197);
        x.end(0);
        // with its extension it has no room, so it comes first in the next page, without one
        x.tick(16);
        x.take(0, 1);
        due("live", x.count(5), 2);
        dueCells(x, 1, 16, 0);
        due("stamp of the next", x.page(1, 0), 4000 + 16 + 8194 + 3 + 16);
        TraceRing far = new TraceRing();
        far.take(0, 1);
        for (int i = 0; i < 199; i++) {
            far.tick(5000);
        }
        far.tick(4999);
        far.take(1, 8);
        dueCells(far, 0, 16, 0, 240 + 999999 % 16, 999999 / 16 % 256, 999999 / 4096, 128, 0);
    }

    private static void promise7Lost() {
        TraceRing x = new TraceRing();
        dueRing(x, "pages 2; cells 12; refuse;", 24);
        x.take(0, 8);
        x.end(0);
        x.take(0, 8);
        x.end(0);
        due("take is lost", x.take(2, 8), -3);
        due("open", x.count(4), 0);
        due("numbers", x.count(6), 3);
        due("lost", x.count(7), 1);
        due("lost by 2", x.count(32), 1);
        due("taken by 2", x.count(22), 0);
        due("take that has room", x.take(3, 2), 4);
        due("take is lost", x.take(3, 8), -2);
        x.end(3);
        x.mode(true);
        due("take now overwrites", x.take(1, 8), 5);
        due("overwritten", x.count(8), 1);
        // in mode over lost, for an open one is in that page
        dueRing(x, "pages 2; cells 12;", 24);
        x.take(0, 8);
        x.take(1, 8);
        x.end(1);
        due("take is lost", x.take(1, 8), -3);
        due("lost", x.count(7), 1);
        due("overwritten", x.count(8), 0);
        due("live", x.count(5), 2);
    }

    private static void promise7Overwritten() {
        TraceRing x = new TraceRing();
        dueRing(x, "pages 2; cells 12;", 24);
        for (int i = 0; i < 6; i++) {
            x.tick(1);
            x.take(0, 3);
            x.put(0, 100 + i);
            x.end(0);
        }
        due("both live", x.count(5), 2);
        due("head's place", x.page(0, 5), 0);
        due("take", x.take(0, 4), 7);
        due("overwritten", x.count(8), 3);
        due("head's place", x.page(0, 5), 1);
        due("tail's place", x.page(1, 5), 0);
        dueCells(x, 1, 64, 0, 0, 0, 0, 0, 0, 0, 0, 0, 0, 0);
        due("records ready", x.count(12), 3);
        due("first ready", x.record(0, 0), 4);
        x.end(0);
        due("all ready", x.count(12), 4);
    }

    private static void promise8Put() {
        TraceRing x = new TraceRing();
        due("put with none open", x.put(0, 1), -1);
        x.take(1, 3);
        due("put(0, 1)", x.put(0, 1), -1);
        due("put(1, -1)", x.put(1, -1), -1);
        due("put(1, 256)", x.put(1, 256), -1);
        due("put(1, 255)", x.put(1, 255), 2);
        x.take(3, 1);
        due("put of an outer one", x.put(1, 4), -1);
        due("put(3, 0)", x.put(3, 0), 0);
        due("put once more", x.put(3, 7), -1);
        x.end(3);
        due("put(1, 8)", x.put(1, 8), 1);
        due("put(1, 9)", x.put(1, 9), 0);
        due("put once more", x.put(1, 10), -1);
        dueCells(x, 0, 48, 255, 8, 9, 16, 0);
    }

    private static void promise9End() {
        TraceRing x = new TraceRing();
        due("end with none open", x.end(0), -1);
        due("end(-1)", x.end(-1), -1);
        x.take(0, 8);
        x.take(1, 8);
        x.take(3, 4);
        due("live", x.count(5), 2);
        due("end of an outer one", x.end(1), -1);
        due("end(3)", x.end(3), 2);
        due("ready", x.page(0, 2) + x.page(1, 2) + x.count(12), 0);
        due("end(3)", x.end(3), -1);
        due("end(1)", x.end(1), 1);
        due("ready", x.page(1, 2), 0);
        due("end(0)", x.end(0), 0);
        due("ready in the first", x.page(0, 2), 9);
        due("ready in the second", x.page(1, 2), 14);
        due("ready records", x.count(12), 3);
    }

    private static void promise10Drop() {
        TraceRing x = new TraceRing();
        due("drop with none open", x.drop(0), -1);
        x.tick(7);
        x.take(0, 2);
        x.put(0, 50);
        due("drop(1)", x.drop(1), -1);
        due("drop(0)", x.drop(0), 0);
        due("used", x.page(0, 1), 0);
        due("stamp", x.page(0, 0), -1);
        due("live", x.count(5), 1);
        dueCells(x, 0, 0, 0, 0);
        x.tick(3);
        x.take(0, 3);
        x.put(0, 50);
        x.put(0, 51);
        due("stamp anew", x.page(0, 0), 10);
        x.tick(9);
        x.take(1, 3);
        x.put(1, 60);
        x.put(1, 61);
        x.tick(2);
        x.take(2, 1);
        due("drop of the inmost goes", x.drop(2), 0);
        x.take(2, 1);
        x.end(2);
        due("drop leaves a gap", x.drop(1), 1);
        dueCells(x, 0, 48, 50, 51, 0, 233, 3, 0, 0, 18, 0, 0);
        due("drop of the first leaves a gap", x.drop(0), 1);
        dueCells(x, 0, 224, 3, 0, 0, 233, 3, 0, 0, 18, 0, 0);
        due("dropped", x.count(9), 4);
        due("gaps", x.page(0, 4), 2);
        due("records", x.page(0, 3), 1);
        due("ready then as by end", x.page(0, 2), 10);
        due("ready records", x.count(12), 1);
        due("the record", x.record(0, 0), 5);
        due("dropped ones were not ended", x.count(17), 5);
        x.tick(4);
        x.take(0, 1);
        due("delta by what lies last", x.cell(0, 10), 20);
    }

    private static void promise10DropInOtherPage() {
        TraceRing x = new TraceRing();
        dueRing(x, "cells 12;", 36);
        x.take(0, 1);
        x.tick(20);
        x.take(1, 4);
        x.take(2, 4);
        due("drop of the only one in the tail", x.drop(2), 0);
        due("an empty page stays tail", x.count(5), 2);
        due("its stamp", x.page(1, 0), -1);
        due("a drop in a page ahead of the tail", x.drop(1), 1);
        dueCells(x, 0, 16, 0, 244, 1, 0, 224, 4, 0, 0, 0, 0, 0);
        due("lie there", x.parsed(0, -1, 0), 3);
        due("a gap", x.parsed(0, 2, 0), 1);
        due("of five cells", x.parsed(0, 2, 2), 5);
        due("its time", x.parsed(0, 2, 3), 20);
        x.end(0);
        due("ready in the page ahead", x.page(0, 2), 10);
        x.take(0, 8);
        due("it comes to the empty tail", x.open(0, 5), 1);
        due("first cell", x.cell(1, 0), 128);
    }

    private static void promise11Swap() {
        TraceRing x = new TraceRing();
        dueRing(x, "pages 2; cells 12;", 24);
        due("swap of an empty tail", x.swap(true), -1);
        x.take(0, 2);
        due("by force with an open one", x.swap(true), -1);
        x.end(0);
        due("of the tail without force", x.swap(false), -1);
        due("swap(true)", x.swap(true), 1);
        due("the head is empty", x.page(0, 1), 0);
        due("its place", x.page(0, 5), 0);
        due("the reader's page", x.page(-1, 1), 3);
        due("its ready", x.page(-1, 2), 3);
        due("its place", x.page(-1, 5), -1);
        x.take(0, 8);
        x.end(0);
        x.take(0, 8);
        x.end(0);
        due("swap(false)", x.swap(false), 1);
        due("skipped", x.count(10), 1);
        due("live", x.count(5), 1);
        due("the next is head", x.page(0, 5), 1);
        due("read", x.read(), 2);
        x.take(0, 8);
        due("place of the page that came in", x.page(1, 5), 0);
        due("the tail has an open one, the head has none", x.swap(true), 1);
        due("skipped", x.count(10), 1);
        x.take(1, 8);
        due("an open one is in the head", x.swap(true), -1);
        due("swaps", x.count(14), 3);
        x.end(1);
        x.drop(0);
        due("a page of gaps alone", x.swap(false), 0);
        due("skipped", x.count(10), 2);
        due("gaps", x.page(-1, 4), 1);
        due("gaps are not read", x.read(), -1);
        due("gaps are not skipped", x.count(10), 2);
    }

    private static void promise12Read() {
        TraceRing x = new TraceRing();
        due("nothing to read", x.read(), -1);
        for (int i = 0; i < 6; i++) {
            x.take(i % 4, 1);
            x.end(i % 4);
        }
        due("swap", x.swap(true), 6);
        x.mask(5);
        due("read", x.read(), 1);
        due("read", x.read(), 3);
        due("skipped", x.count(10), 1);
        x.mask(15);
        due("read", x.read(), 4);
        due("left", x.latest(5), 2);
        x.mask(4);
        due("none comes", x.read(), -1);
        due("those were passed over", x.count(10), 3);
        due("left", x.latest(5), 0);
        x.mask(15);
        due("they stay passed over", x.read(), -1);
        due("were read", x.count(11), 3);
        x.take(0, 1);
        x.take(1, 1);
        x.end(1);
        x.drop(0);
        x.swap(true);
        due("gaps are passed over", x.read(), 8);
        due("skipped", x.count(10), 3);
        x.take(0, 1);
        x.end(0);
        x.swap(true);
        x.mask(0);
        due("the empty mask", x.read(), -1);
        due("skipped", x.count(10), 4);
    }

    private static void promise13Mode() {
        TraceRing x = new TraceRing();
        due("mode(true)", x.mode(true), false);
        due("mode(false)", x.mode(false), true);
        due("count(2)", x.count(2), 0);
        due("mode(false)", x.mode(false), false);
        due("mode(true)", x.mode(true), true);
        due("count(2)", x.count(2), 1);
    }

    private static void promise14Mask() {
        TraceRing x = new TraceRing();
        due("mask(15)", x.mask(15), false);
        due("mask(-1)", x.mask(-1), false);
        due("mask(16)", x.mask(16), false);
        due("count(40)", x.count(40), 15);
        due("mask(0)", x.mask(0), true);
        due("mask(0)", x.mask(0), false);
        due("mask(8)", x.mask(8), true);
        due("count(40)", x.count(40), 8);
    }

    private static void promise15Resize() {
        TraceRing x = new TraceRing();
        due("resize(3)", x.resize(3), -1);
        due("resize(1)", x.resize(1), -1);
        due("resize(7)", x.resize(7), -1);
        due("resize(4)", x.resize(4), 0);
        due("pages", x.count(0), 4);
        for (int i = 0; i < 10; i++) {
            x.take(0, 7);
            if (i == 9) {
                due("with one open", x.resize(2), -1);
            }
            x.end(0);
        }
        due("head's place", x.page(0, 5), 1);
        due("overwritten", x.count(8), 2);
        due("resize(2)", x.resize(2), 4);
        due("overwritten", x.count(8), 6);
        due("live", x.count(5), 2);
        due("head's place", x.page(0, 5), 0);
        due("tail's place", x.page(1, 5), 1);
        due("first ready", x.record(0, 0), 7);
        due("ready", x.count(12), 4);
        due("resize(6)", x.resize(6), 0);
        due("head's place", x.page(0, 5), 0);
        due("live", x.count(5), 2);
        due("room behind the tail", x.room(7), 8);
        x.take(0, 7);
        due("next place", x.page(2, 5), 2);
        due("it is empty but for that", x.sum(2, 0, 16), 112);
    }

    private static int draw(int[] x, int below) {
        x[0] = x[0] * 1103515245 + 12345;
        return (x[0] >>> 16) % below;
    }

    /** The storm told by calls of the acts alone. */
    private static int stormByActs(TraceRing x, int seed, int n) {
        int[] drawn = {seed};
        int lost = 0;
        for (int i = 0; i < n; i++) {
            int act = draw(drawn, 10);
            int open = x.count(4);
            int inner = open == 0 ? -1 : x.open(open - 1, 1);
            if (act == 0) {
                x.tick(1 + draw(drawn, 40));
            } else if (act < 5 && inner == 3) {
                x.end(3);
            } else if (act < 5) {
                lost += x.take(inner + 1, 1 + draw(drawn, 8)) == -3 ? 1 : 0;
            } else if (act == 5) {
                x.put(inner, draw(drawn, 256));
            } else if (act < 8) {
                x.end(inner);
            } else if (act == 8) {
                x.drop(inner);
            } else {
                x.swap(draw(drawn, 2) == 1);
                x.read();
                x.read();
            }
        }
        return lost;
    }

    private static void dueAlike(String call, TraceRing x, TraceRing y) {
        for (int what = 0; what <= 40; what++) {
            due(call + ", count(" + what + ")", x.count(what), y.count(what));
        }
        for (int k = -1; k < 6; k++) {
            for (int i = 0; i < 32; i++) {
                due(call + ", cell", x.cell(k, i), y.cell(k, i));
                due(call + ", page", x.page(k, i), y.page(k, i));
                due(call + ", open", x.open(k, i), y.open(k, i));
                due(call + ", latest", x.latest(i), y.latest(i));
            }
        }
    }

    private static void promise16Storm() {
        TraceRing x = new TraceRing();
        due("storm(1, 0)", x.storm(1, 0), -1);
        due("storm(1, 61)", x.storm(1, 61), -1);
        due("storm(1, -1)", x.storm(1, -1), -1);
        dueAsNew(x, 3, 16, 1);
        TraceRing y = new TraceRing();
        int lost = 0;
        for (int seed = -20; seed < 20; seed++) {
            String told = "storm(" + seed * 7654321 + ", 60)";
            x.mode(seed % 2 == 0);
            y.mode(seed % 2 == 0);
            int byActs = stormByActs(y, seed * 7654321, 60);
            due(told, x.storm(seed * 7654321, 60), byActs);
            dueAlike(told, x, y);
            lost += byActs;
        }
        due("some were lost", lost > 0, true);
        due("storm(5, 1)", x.storm(5, 1), stormByActs(y, 5, 1));
        dueAlike("storm(5, 1)", x, y);
        // at the end of all time a tick does nothing, but is drawn
        for (int i = 0; i < 200; i++) {
            x.tick(5000);
            y.tick(5000);
        }
        due("storm late", x.storm(99, 60), stormByActs(y, 99, 60));
        dueAlike("storm late", x, y);
    }

    private static void promise17Count() {
        TraceRing x = new TraceRing();
        int[] none = {-1, -2, 24, 25, 29, 34, 35, 39, 41, 100, Integer.MAX_VALUE, Integer.MIN_VALUE};
        for (int what : none) {
            due("count(" + what + ")", x.count(what), -1);
        }
        x.tick(100);
        x.take(0, 1);
        x.tick(10);
        x.take(1, 2);
        x.tick(20);
        x.take(3, 1);
        due("open", x.count(4), 3);
        due("longest, none was ended", x.count(16), 0);
        due("its number", x.count(17), -1);
        x.end(3);
        due("longest", x.count(16), 0);
        due("its number", x.count(17), 3);
        x.end(1);
        due("longest", x.count(16), 20);
        due("its number", x.count(17), 2);
        x.end(0);
        due("longest", x.count(16), 30);
        due("its number", x.count(17), 1);
        x.take(2, 1);
        x.tick(30);
        x.end(2);
        due("no longer one", x.count(17), 1);
        x.take(2, 1);
        x.tick(31);
        x.drop(2);
        due("a drop is no end", x.count(16), 30);
        x.tell(0x6100000000000000L);
        int[] counts = {3, 16, 1, 191, 0, 2, 5, 0, 0, 1, 0, 0, 4, 1, 0, 1, 30, 1, 20, 3, 1, 1, 2, 1};
        for (int what = 0; what < counts.length; what++) {
            due("count(" + what + ")", x.count(what), counts[what]);
        }
        due("swap", x.swap(false), 4);
        due("ready ones are in the ring alone", x.count(12), 0);
        due("swaps", x.count(14), 1);
    }

    private static void promise18Page() {
        TraceRing x = new TraceRing();
        x.tick(9);
        x.take(0, 8);
        x.take(1, 7);
        x.take(2, 3);
        x.take(3, 1);
        int[][] want = {{9, 9, 0, 1, 0, 0}, {9, 14, 0, 3, 0, 1}};
        for (int k = 0; k < 2; k++) {
            for (int what = 0; what < 6; what++) {
                due("page(" + k + ", " + what + ")", x.page(k, what), want[k][what]);
            }
        }
        int[][] none = {{2, 0}, {2, 5}, {-2, 0}, {-2, 5}, {0, -1}, {0, 6}, {-1, 6}, {-1, -1}, {3, 3},
            {Integer.MAX_VALUE, 1}, {Integer.MIN_VALUE, 5}};
        for (int[] asked : none) {
            due("page(" + asked[0] + ", " + asked[1] + ")", x.page(asked[0], asked[1]), -2);
        }
        x.end(3);
        x.drop(2);
        due("open ones count", x.page(1, 3), 2);
        due("gaps", x.page(1, 4), 1);
        x.end(1);
        x.end(0);
        due("ready", x.page(1, 2), 14);
        x.swap(false);
        due("the reader's stamp", x.page(-1, 0), 9);
        due("the reader's records", x.page(-1, 3), 1);
    }

    private static void promise19Cell() {
        TraceRing x = new TraceRing();
        x.take(0, 2);
        x.put(0, 77);
        dueCells(x, 0, 32, 77, 0, 0, 0, 0, 0, 0, 0, 0, 0, 0, 0, 0, 0, 0);
        due("cell(0, 16)", x.cell(0, 16), -1);
        due("cell(0, -1)", x.cell(0, -1), -1);
        due("cell(1, 0)", x.cell(1, 0), -1);
        due("cell(-2, 0)", x.cell(-2, 0), -1);
        due("cell(-1, 15)", x.cell(-1, 15), 0);
        due("cell(-1, 16)", x.cell(-1, 16), -1);
        x.end(0);
        x.swap(true);
        dueCells(x, -1, 32, 77, 0);
        dueCells(x, 0, 0, 0, 0);
        dueRing(x, "cells 32;", 96);
        due("cell(0, 31)", x.cell(0, 31), 0);
        due("cell(0, 32)", x.cell(0, 32), -1);
    }

    private static void promise20Open() {
        TraceRing x = new TraceRing();
        x.tick(5);
        x.take(1, 2);
        x.put(1, 9);
        x.tick(30);
        x.take(2, 3);
        x.take(3, 8);
        int[][] want = {{1, 1, 5, 2, 1, 0, 0}, {2, 2, 35, 3, 0, 0, 6}, {3, 3, 35, 8, 0, 1, 0}};
        for (int k = 0; k < 3; k++) {
            for (int what = 0; what < 7; what++) {
                due("open(" + k + ", " + what + ")", x.open(k, what), want[k][what]);
            }
            due("open(k, 7)", x.open(k, 7), -2);
            due("open(k, 10)", x.open(k, 10), -2);
            due("open(k, -1)", x.open(k, -1), -2);
        }
        due("open(3, 0)", x.open(3, 0), -2);
        due("open(-1, 0)", x.open(-1, 0), -2);
        // the live page is told from the head on, wherever that is
        dueRing(x, "pages 2; cells 12;", 24);
        x.take(0, 8);
        x.end(0);
        x.take(0, 8);
        x.swap(false);
        due("open(0, 5)", x.open(0, 5), 0);
        x.take(1, 8);
        due("open(1, 5)", x.open(1, 5), 1);
    }

    private static void promise21Record() {
        TraceRing x = new TraceRing();
        x.take(0, 2);
        x.put(0, 10);
        x.put(0, 11);
        x.tick(40);
        x.take(1, 1);
        x.put(1, 12);
        due("none is ready", x.record(0, 0), -2);
        x.take(2, 1);
        x.end(2);
        x.drop(1);
        x.end(0);
        x.take(3, 8);
        x.put(3, 99);
        x.end(3);
        x.take(0, 1);
        int[][] want = {{1, 0, 0, 2, 10, 11}, {3, 2, 40, 1, 0}, {4, 3, 40, 8, 99, 0}};
        for (int k = 0; k < want.length; k++) {
            for (int i = 0; i < want[k].length; i++) {
                int what = i < 4 ? i : i + 6;
                due("record(" + k + ", " + what + ")", x.record(k, what), want[k][i]);
            }
            due("record(k, 4)", x.record(k, 4), -2);
            due("record(k, -1)", x.record(k, -1), -2);
        }
        due("record(0, 12)", x.record(0, 12), -2);
        due("record(2, 17)", x.record(2, 17), 0);
        due("record(2, 18)", x.record(2, 18), -2);
        due("record(3, 0)", x.record(3, 0), -2);
        due("record(-1, 0)", x.record(-1, 0), -2);
    }

    private static void promise22Latest() {
        TraceRing x = new TraceRing();
        due("latest(0)", x.latest(0), -2);
        due("latest(5)", x.latest(5), 0);
        dueRing(x, "pages 2; cells 12;", 24);
        x.take(0, 8);
        x.drop(0);
        x.tick(6);
        x.take(1, 2);
        x.put(1, 70);
        x.end(1);
        x.take(0, 2);
        x.end(0);
        x.take(0, 2);
        x.end(0);
        due("swap", x.swap(true), 3);
        due("nothing was read", x.latest(4), -2);
        due("left", x.latest(5), 3);
        x.read();
        int[] want = {2, 1, 6, 2, 1, 2};
        for (int what = 0; what < 6; what++) {
            due("latest(" + what + ")", x.latest(what), want[what]);
        }
        due("latest(10)", x.latest(10), 70);
        due("latest(11)", x.latest(11), 0);
        due("latest(12)", x.latest(12), -2);
        due("latest(6)", x.latest(6), -2);
        due("latest(-1)", x.latest(-1), -2);
        x.take(3, 3);
        x.end(3);
        x.swap(true);
        due("latest stays as its page goes", x.latest(10), 70);
        due("left", x.latest(5), 1);
        x.read();
        due("latest(0)", x.latest(0), 5);
        due("missing are the two that were skipped", x.latest(4), 2);
        x.take(0, 1);
        x.end(0);
        x.swap(true);
        x.read();
        due("none is missing", x.latest(4), 0);
    }

    private static void promise23Parsed() {
        TraceRing x = new TraceRing();
        due("nothing lies there", x.parsed(0, -1, 0), 0);
        due("parsed(0, 0, 0)", x.parsed(0, 0, 0), -2);
        x.tick(50);
        x.take(0, 2);
        x.tick(15);
        x.take(1, 3);
        x.tick(300);
        x.take(2, 1);
        x.end(2);
        x.drop(1);
        due("how many", x.parsed(0, -1, 0), 4);
        int[][] want = {{0, 0, 3, 50, 2}, {1, 3, 4, 65, 3}, {2, 7, 3, 300, 0}, {0, 10, 2, 365, 1}};
        for (int i = 0; i < want.length; i++) {
            for (int what = 0; what < 5; what++) {
                due("parsed(0, " + i + ", " + what + ")", x.parsed(0, i, what), want[i][what]);
            }
            due("parsed(0, i, 5)", x.parsed(0, i, 5), -2);
            due("parsed(0, i, -1)", x.parsed(0, i, -1), -2);
        }
        due("parsed(0, 4, 0)", x.parsed(0, 4, 0), -2);
        due("parsed(0, -2, 0)", x.parsed(0, -2, 0), -2);
        due("parsed(0, -1, 1)", x.parsed(0, -1, 1), -2);
        due("parsed(1, -1, 0)", x.parsed(1, -1, 0), -2);
        due("parsed(-2, -1, 0)", x.parsed(-2, -1, 0), -2);
        due("parsed(0, MAX, 0)", x.parsed(0, Integer.MAX_VALUE, 0), -2);
        due("the reader's", x.parsed(-1, -1, 0), 0);
        x.end(0);
        x.swap(true);
        due("the reader's", x.parsed(-1, -1, 0), 4);
        due("the reader's last", x.parsed(-1, 3, 3), 365);
    }

    private static void promise24Between() {
        TraceRing x = new TraceRing();
        for (int i = 1; i <= 9; i++) {
            x.tick(2);
            x.take(0, 3);
            x.end(0);
        }
        x.tick(2);
        x.take(0, 1);
        due("between all", x.between(0, 999999, false), 9);
        due("first of all", x.between(0, 999999, true), 0);
        due("between 4 and 8", x.between(4, 8, false), 3);
        due("first from 4", x.between(4, 8, true), 1);
        due("between 5 and 5", x.between(5, 5, false), 0);
        due("first of 5", x.between(5, 5, true), -1);
        due("between 18 and 20", x.between(18, 20, false), 1);
        due("first from 18", x.between(18, 20, true), 8);
        due("turned round", x.between(8, 4, false), 0);
        due("turned round", x.between(8, 4, true), -1);
        due("widest", x.between(Integer.MIN_VALUE, Integer.MAX_VALUE, false), 9);
    }

    private static void promise25Sum() {
        TraceRing x = new TraceRing();
        x.take(0, 3);
        x.put(0, 100);
        x.put(0, 255);
        due("sum(0, 0, 16)", x.sum(0, 0, 16), 403);
        due("sum(0, 1, 2)", x.sum(0, 1, 2), 355);
        due("sum(0, 16, 0)", x.sum(0, 16, 0), 0);
        due("sum(0, 0, 0)", x.sum(0, 0, 0), 0);
        due("sum(0, 17, 0)", x.sum(0, 17, 0), -1);
        due("sum(0, 1, 16)", x.sum(0, 1, 16), -1);
        due("sum(0, -1, 2)", x.sum(0, -1, 2), -1);
        due("sum(0, 2, -1)", x.sum(0, 2, -1), -1);
        due("sum(0, 2, MAX)", x.sum(0, 2, Integer.MAX_VALUE), -1);
        due("sum(0, MAX, 2)", x.sum(0, Integer.MAX_VALUE, 2), -1);
        due("sum(1, 0, 1)", x.sum(1, 0, 1), -1);
        due("sum(-2, 0, 1)", x.sum(-2, 0, 1), -1);
        due("sum(-1, 0, 16)", x.sum(-1, 0, 16), 0);
    }

    private static void promise26Would() {
        TraceRing x = new TraceRing();
        due("would(-1, 1)", x.would(-1, 1), -1);
        due("would(4, 1)", x.would(4, 1), -1);
        due("would(0, 0)", x.would(0, 0), -1);
        due("would(0, 9)", x.would(0, 9), -1);
        dueRing(x, "pages 2; cells 12;", 24);
        due("room in an empty tail", x.would(0, 8), 0);
        x.take(0, 8);
        due("refused", x.would(0, 1), -2);
        due("room to the last cell", x.would(1, 2), 0);
        due("begins a page", x.would(1, 3), 1);
        x.end(0);
        x.tick(15);
        due("no extension yet", x.would(0, 2), 0);
        x.tick(1);
        due("no room with an extension", x.would(0, 1), 1);
        x.take(0, 8);
        due("overwrites", x.would(1, 8), 2);
        x.mode(false);
        due("lost", x.would(1, 8), -3);
        x.mode(true);
        x.end(0);
        x.swap(false);
        x.take(0, 2);
        x.take(1, 8);
        due("lost, for the head has an open one", x.would(2, 8), -3);
        due("nothing is given", x.count(6), 4);
        due("nothing is lost", x.count(7), 0);
    }

    private static void promise27Room() {
        TraceRing x = new TraceRing();
        due("room(0)", x.room(0), -1);
        due("room(9)", x.room(9), -1);
        due("room(1)", x.room(1), 24);
        due("room(2)", x.room(2), 15);
        due("room(8)", x.room(8), 3);
        x.mode(false);
        due("room(7) in refuse", x.room(7), 6);
        x.mode(true);
        x.take(2, 1);
        due("room(1) behind one", x.room(1), 23);
        x.tick(16);
        due("the first with its extension", x.room(1), 5 + 16);
        due("it just fits", x.room(8), 1 + 2);
        x.take(3, 1);
        due("refused", x.room(1), -1);
        x.end(3);
        x.end(2);
        due("used", x.page(0, 1), 7);
        x.tick(16);
        due("no room for it with its extension", x.room(6), 4);
        due("room(5)", x.room(5), 5);
        due("nothing has changed", x.page(0, 1), 7);
        dueRing(x, "pages 2; cells 12;", 24);
        x.take(0, 8);
        x.take(1, 8);
        x.end(1);
        x.drop(0);
        due("a head of gaps alone is not taken", x.room(1), 1);
        due("room(8)", x.room(8), 0);
    }

    private static void promise28After() {
        TraceRing x = new TraceRing();
        TraceRing y = new TraceRing();
        x.storm(3, 40);
        y.storm(3, 40);
        x.tell(0x6161610000000000L);
        y.tell(0x6161610000000000L);
        due("after(1, 0, 3)", x.after(1, 0, 3), -1);
        due("after(1, 61, 3)", x.after(1, 61, 3), -1);
        due("after(1, 5, 24)", x.after(1, 5, 24), -1);
        due("after(1, 5, -1)", x.after(1, 5, -1), -1);
        due("after(1, 0, 15)", x.after(1, 0, 15), -1);
        y.storm(-12345, 60);
        for (int what = 0; what <= 41; what++) {
            due("after(-12345, 60, " + what + ")", x.after(-12345, 60, what), y.count(what));
        }
        due("nothing stays", x.count(3) != y.count(3), true);
        x.storm(-12345, 60);
        dueAlike("after", x, y);
    }

    private static void promise29Fewest() {
        TraceRing x = new TraceRing();
        due("fewest(1, 0)", x.fewest(1, 0), -1);
        due("fewest(1, 61)", x.fewest(1, 61), -1);
        int[] seen = new int[7];
        for (int seed = 0; seed < 300; seed++) {
            boolean over = seed % 2 == 0;
            x.mode(over);
            int want = -1;
            for (int pages = 6; pages >= 2; pages--) {
                TraceRing y = new TraceRing();
                Check.ring(y, "pages " + pages + ";" + (over ? "" : "refuse;"));
                y.storm(seed, 60);
                want = y.count(7) + y.count(8) == 0 ? pages : want;
            }
            due("fewest(" + seed + ", 60)", x.fewest(seed, 60), want);
            seen[Math.max(0, want)]++;
        }
        due("two are seen", seen[2] > 0, true);
        due("more are seen", seen[3] > 0 && seen[4] > 0, true);
        due("none is seen", seen[0] > 0, true);
        x.storm(5, 60);
        x.mask(3);
        due("from the beginning", x.fewest(5, 60), new TraceRing().fewest(5, 60));
        due("nothing stays", x.count(40), 3);
        due("few acts", x.fewest(9, 1), 2);
    }

    private static void promise30and31Images() {
        TraceRing x = new TraceRing();
        due("image(-1)", x.image(-1), false);
        due("image(3)", x.image(3), false);
        due("again(-1)", x.again(-1), false);
        due("again(3)", x.again(3), false);
        due("again(2)", x.again(2), false);
        dueRing(x, "pages 4; cells 20; refuse;", 80);
        x.storm(77, 60);
        x.take(3, 2);
        x.mask(9);
        Check.script(x, "tick");
        x.tell(0x7377000000000000L);
        due("image(2)", x.image(2), true);
        TraceRing y = new TraceRing();
        Check.ring(y, "pages 4; cells 20; refuse;");
        y.storm(77, 60);
        y.take(3, 2);
        y.mask(9);
        Check.script(y, "tick");
        y.tell(0x7377000000000000L);
        dueRing(x, "ap;", -1);
        dueFault(x, 1, 0);
        dueRing(x, "over;", 48);
        dueFault(x, 0, -1);
        due("image(0)", x.image(0), true);
        x.storm(1, 30);
        due("again(2)", x.again(2), true);
        dueFault(x, 1, 4);
        dueAlike("again(2)", x, y);
        x.tell(0x61703b0000000000L);
        y.tell(0x61703b0000000000L);
        due("the text as it was kept", x.script(), y.script());
        dueFault(x, 0, -1);
        dueAlike("script after again", x, y);
        x.storm(4, 60);
        due("again once more", x.again(2), true);
        y = new TraceRing();
        due("the other is still kept", x.again(0), true);
        dueAlike("again(0)", x, y);
        x.tick(5);
        due("image over an image", x.image(0), true);
        x.tick(5);
        x.again(0);
        due("now", x.count(3), 5);
        due("again(1)", x.again(1), false);
        imageOfReaderAndOpen();
    }

    private static void imageOfReaderAndOpen() {
        TraceRing x = new TraceRing();
        Check.script(x, "tick 3; take 1 2; put 1 60; end 1; take 0 1; end 0; take 0 1; end 0; force; read 1;");
        Check.script(x, "take 2 2; put 2 61; end 2; take 0 3; put 0 62; put 0 63;");
        x.image(1);
        dueRing(x, "pages 6; cells 32; refuse;", 192);
        x.storm(12, 60);
        x.again(1);
        int[] read = {1, 1, 3, 2, 0, 2};
        for (int what = 0; what < read.length; what++) {
            due("again: latest(" + what + ")", x.latest(what), read[what]);
        }
        due("again: latest(10)", x.latest(10), 60);
        int[] ready = {4, 2, 3, 2};
        for (int what = 0; what < ready.length; what++) {
            due("again: record(0, " + what + ")", x.record(0, what), ready[what]);
        }
        due("again: record(0, 10)", x.record(0, 10), 61);
        due("again: put", x.put(0, 64), 0);
        dueCells(x, 0, 32, 61, 0, 48, 62, 63, 64, 0);
        due("again: drop", x.drop(0), 0);
        dueCells(x, 0, 32, 61, 0, 0, 0, 0, 0, 0);
        due("again: read", x.read(), 2);
    }

    private static void constants() {
        due("NONE", TraceRing.NONE, -1);
    }
}
