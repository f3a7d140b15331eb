import static java.lang.Integer.MAX_VALUE;
import static java.lang.Integer.MIN_VALUE;

/** Each sentence of the document's terms 1 and 2 that names a boundary: a test of its own. */
public final class TermsTest {
    public static void main(String[] args) {
        firstTerm();
        takes();
        openOnes();
        drops();
        swaps();
        reads();
        resizes();
        parses();
        Check.finish();
    }

    private static void due(String call, long got, long want) {
        Check.due(call, got, want);
    }

    private static void due(String call, boolean got, boolean want) {
        Check.due(call, got, want);
    }

    private static void says(String words) {
        Check.says(words);
    }

    private static void firstTerm() {
        pagesTwoToSix();
        cellsTwelveToThirtyTwo();
        numbersOfOneByte();
        modeNowLevels();
        otherCellsAreZero();
        oneAtFirst();
        roundAbout();
        liveOnes();
        dataOneToEight();
        deltaBehindAGap();
        deltaOfTheFirst();
        fifteenOrLess();
        extensionCells();
    }

    private static void pagesTwoToSix() {
        says("PAGES, 2 to 6 (3 at first)");
        due("count(0) at first", new TraceRing().count(0), 3);
        for (int pages = 0; pages <= 8; pages++) {
            boolean can = pages >= 2 && pages <= 6;
            TraceRing x = new TraceRing();
            due("ring of pages " + pages, Check.ring(x, "pages " + pages + ";"), can ? 16 * pages : -1);
            due("count(0)", x.count(0), can ? pages : 3);
            TraceRing y = new TraceRing();
            due("resize(" + pages + ")", y.resize(pages), can && pages != 3 ? 0 : -1);
            due("count(0)", y.count(0), can ? pages : 3);
        }
        for (int pages = 2; pages <= 6; pages++) {
            TraceRing x = Check.begun("pages " + pages + "; cells 12;", "take 0 8; end 0; ".repeat(9));
            due("so many can be live", x.count(5), pages);
            due("all others were overwritten", x.count(8), 9 - pages);
        }
    }

    private static void cellsTwelveToThirtyTwo() {
        says("CELLS, 12 to 32 (16)");
        due("count(1) at first", new TraceRing().count(1), 16);
        for (int cells = 10; cells <= 34; cells++) {
            boolean can = cells >= 12 && cells <= 32;
            TraceRing x = new TraceRing();
            due("ring of cells " + cells, Check.ring(x, "cells " + cells + ";"), can ? 3 * cells : -1);
            due("count(1)", x.count(1), can ? cells : 16);
            if (can) {
                due("the last cell", x.cell(0, cells - 1), 0);
                due("none behind it", x.cell(0, cells), -1);
                Check.done(x, "take 0 1; end 0; ".repeat(cells / 2));
                due("so many fit", x.count(5), 1);
                due("used", x.page(0, 1), cells / 2 * 2);
                Check.done(x, "take 0 1;");
                due("one more does not", x.count(5), 2);
            }
        }
    }

    private static void numbersOfOneByte() {
        says("numbers 0 to 255");
        TraceRing x = Check.begun("", "take 0 8;");
        due("put(0, 0)", x.put(0, 0), 7);
        due("put(0, 255)", x.put(0, 255), 6);
        due("put(0, 256)", x.put(0, 256), -1);
        due("put(0, -1)", x.put(0, -1), -1);
        Check.cells(x, 0, 128, 0, 255, 0);
    }

    private static void modeNowLevels() {
        says("MODE: over (at first) or refuse");
        due("count(2) at first", new TraceRing().count(2), 1);
        due("count(2) of refuse", Check.begun("refuse;").count(2), 0);
        says("NOW: a time, 0 at first, 999,999 at most");
        TraceRing x = new TraceRing();
        due("count(3) at first", x.count(3), 0);
        for (int i = 1; i <= 199; i++) {
            due("tick(5000)", x.tick(5000), 5000 * i);
        }
        due("one too many", x.tick(5000), -1);
        due("count(3)", x.count(3), 995000);
        due("tick(4999)", x.tick(4999), 999999);
        due("tick(1)", x.tick(1), -1);
        due("count(3)", x.count(3), 999999);
        says("LEVELS are 0 to 3");
        int[] none = {-1, 4, MIN_VALUE, MAX_VALUE};
        for (int level = 0; level <= 3; level++) {
            due("take(" + level + ", 1)", new TraceRing().take(level, 1), 1);
        }
        for (int level : none) {
            due("take(" + level + ", 1)", new TraceRing().take(level, 1), -1);
        }
    }

    private static void otherCellsAreZero() {
        says("its other CELLS are 0");
        TraceRing x = Check.begun("cells 12;", "tick 9; take 0 2; put 0 7; put 0 8; end 0; tick 2; take 1 1; put 1 9;");
        Check.cells(x, 0, 32, 7, 8, 18, 9, 0, 0, 0, 0, 0, 0, 0);
        Check.cells(x, -1, 0, 0, 0, 0, 0, 0, 0, 0, 0, 0, 0, 0);
        Check.done(x, "drop 1;");
        Check.cells(x, 0, 32, 7, 8, 0, 0, 0, 0, 0, 0, 0, 0, 0);
    }

    private static void oneAtFirst() {
        says("at first both are one; USED 0");
        TraceRing x = new TraceRing();
        due("live", x.count(5), 1);
        due("used", x.page(0, 1), 0);
        due("ready", x.page(0, 2), 0);
        due("no other", x.page(1, 1), -2);
        x.take(0, 1);
        due("the tail is that one", x.open(0, 5), 0);
        due("the head has it", x.page(0, 1), 2);
    }

    private static void roundAbout() {
        says("from one PAGE to the next one round about");
        for (int pages = 2; pages <= 6; pages++) {
            TraceRing x = Check.begun("pages " + pages + "; cells 12;");
            for (int i = 0; i < 14; i++) {
                x.take(0, 8);
                x.end(0);
                due("the tail's place", x.page(x.count(5) - 1, 5), i % pages);
                due("the head's place", x.page(0, 5), i < pages ? 0 : (i + 1) % pages);
            }
        }
    }

    private static void liveOnes() {
        says("those from HEAD to TAIL are LIVE, all others are empty");
        TraceRing x = Check.begun("pages 4; cells 12;", "take 0 8; end 0; ".repeat(3));
        due("live", x.count(5), 3);
        due("the last of them", x.page(2, 1), 9);
        due("the empty one is none of them", x.page(3, 1), -2);
        x.swap(false);
        due("live without the one that was had", x.count(5), 2);
        due("the last of them", x.page(1, 1), 9);
        due("no more", x.page(2, 1), -2);
        Check.done(x, "take 0 1; end 0; take 0 8; end 0; take 0 1; end 0; take 0 8; end 0;");
        due("all are live", x.count(5), 4);
        due("those that were empty have what was taken alone", x.sum(2, 0, 12), 128 + 16);
        due("the last has it alone, too", x.sum(3, 0, 12), 128);
    }

    private static void dataOneToEight() {
        says("its DATA, 1 to 8 CELLS");
        for (int n = -1; n <= 10; n++) {
            TraceRing x = new TraceRing();
            boolean can = n >= 1 && n <= 8;
            due("take(0, " + n + ")", x.take(0, n), can ? 1 : -1);
            due("used", x.page(0, 1), can ? 1 + n : 0);
            due("its cell", x.cell(0, 0), can ? 16 * n : 0);
        }
        due("take(0, MIN)", new TraceRing().take(0, MIN_VALUE), -1);
        due("take(0, MAX)", new TraceRing().take(0, MAX_VALUE), -1);
    }

    private static void deltaBehindAGap() {
        says("be that a RECORD, or a GAP");
        TraceRing x = Check.begun("", "tick 3; take 0 1; tick 5; take 1 1; tick 2; take 2 1; end 2; drop 1; end 0;");
        Check.cells(x, 0, 16, 0, 224 + 5, 1, 16 + 2, 0, 0);
        due("the time behind the gap", x.parsed(0, 2, 3), 10);
        Check.done(x, "tick 4; take 0 1; end 0;");
        due("the next delta", x.cell(0, 6), 16 + 4);
        // the first one of the page is a gap
        x = Check.begun("", "tick 3; take 0 1; tick 7; take 1 1; end 1; drop 0; tick 1; take 0 2;");
        Check.cells(x, 0, 224, 1, 16 + 7, 0, 32 + 1, 0, 0, 0);
        due("the stamp is the gap's time", x.page(0, 0), 3);
    }

    private static void deltaOfTheFirst() {
        says("of the first one 0: the STAMP is its TIME");
        TraceRing x = Check.begun("cells 12;", "tick 5000; take 0 8;");
        Check.cells(x, 0, 128, 0);
        due("the stamp", x.page(0, 0), 5000);
        due("no extension", x.count(13), 0);
        due("greatest delta", x.count(18), 0);
        Check.done(x, "tick 15; take 1 4;");
        Check.cells(x, 1, 64, 0);
        due("the next one's stamp", x.page(1, 0), 5015);
        Check.done(x, "end 1; end 0; tick 5000; take 2 8;");
        Check.cells(x, 2, 128, 0);
        due("the third one's stamp", x.page(2, 0), 10015);
        due("no extension", x.count(13), 0);
        due("greatest delta", x.count(18), 0);
    }

    private static void fifteenOrLess() {
        says("If DELTA is 15 or less: one CELL, 16 times how many DATA, and DELTA. Else an EXTENSION");
        Check.cells(Check.begun("", "take 0 1; end 0; take 0 3;"), 0, 16, 0, 48, 0, 0, 0, 0);
        Check.cells(Check.begun("", "take 0 1; end 0; tick 1; take 0 3;"), 0, 16, 0, 49, 0, 0, 0, 0);
        TraceRing x = Check.begun("", "take 0 1; end 0; tick 15; take 0 3;");
        Check.cells(x, 0, 16, 0, 63, 0, 0, 0, 0);
        due("no extension", x.count(13), 0);
        due("used", x.page(0, 1), 6);
        x = Check.begun("", "take 0 1; end 0; tick 16; take 0 3;");
        Check.cells(x, 0, 16, 0, 240, 1, 0, 48, 0, 0, 0, 0);
        due("an extension", x.count(13), 1);
        due("used", x.page(0, 1), 9);
        x = Check.begun("", "take 0 1; end 0; tick 15; take 0 8;");
        due("of eight and 15", x.cell(0, 2), 143);
    }

    private static void extensionCells() {
        says("240 and DELTA modulo 16; DELTA / 16 modulo 256; DELTA / 4096");
        int[][] due = {
            {16, 240, 1, 0}, {17, 241, 1, 0}, {31, 255, 1, 0}, {32, 240, 2, 0}, {255, 255, 15, 0},
            {256, 240, 16, 0}, {4095, 255, 255, 0}, {4096, 240, 0, 1}, {4097, 241, 0, 1}, {5000, 248, 56, 1}};
        for (int[] row : due) {
            TraceRing x = Check.begun("", "take 0 1; end 0; tick " + row[0] + "; take 0 2;");
            Check.cells(x, 0, 16, 0, row[1], row[2], row[3], 32, 0, 0, 0);
            due("what it tells", x.parsed(0, 1, 3), row[0]);
            due("the time", x.parsed(0, 2, 3), row[0]);
        }
        TraceRing far = Check.begun("", "take 0 1; end 0;");
        for (int i = 0; i < 199; i++) {
            far.tick(5000);
        }
        far.tick(4999);
        far.take(0, 8);
        Check.cells(far, 0, 16, 0, 255, 35, 244, 128, 0);
        due("what the greatest tells", far.parsed(0, 1, 3), 999999);
    }

    private static void takes() {
        firstNumber();
        numbersGoUp();
        timeIsNow();
        roomInTheTail();
        theNextPage();
        lostInRefuse();
        lostInOver();
        overwritten();
        leftBehind();
        lostChangesNothing();
        openWithData();
    }

    private static void firstNumber() {
        says("1 is the first");
        due("take(2, 1)", new TraceRing().take(2, 1), 1);
        TraceRing x = Check.begun("", "take 0 1; end 0; take 0 1; end 0;");
        due("ring()", x.ring(), 48);
        due("after ring()", x.take(0, 1), 1);
    }

    private static void numbersGoUp() {
        says("NUMBERS go up by 1 with each TAKE that is not REFUSED");
        TraceRing x = Check.begun("pages 2; cells 12; refuse;");
        due("take(1, 8)", x.take(1, 8), 1);
        due("refused", x.take(1, 1), -2);
        due("another level", x.take(4, 1), -1);
        due("another n", x.take(2, 9), -1);
        due("take(2, 8)", x.take(2, 8), 2);
        due("lost", x.take(3, 8), -3);
        due("lost", x.take(3, 8), -3);
        due("what is lost has a number", x.take(3, 2), 5);
        x.drop(3);
        due("what is dropped had one", x.take(3, 2), 6);
    }

    private static void timeIsNow() {
        says("The RECORD's TIME is NOW");
        TraceRing x = Check.begun("", "take 0 1; tick 4; take 1 1; tick 30; take 2 2; tick 1;");
        due("at 0", x.open(0, 2), 0);
        due("at 4", x.open(1, 2), 4);
        due("at 34", x.open(2, 2), 34);
    }

    private static void roomInTheTail() {
        says("If it has room behind USED of TAIL, it comes there");
        TraceRing x = Check.begun("cells 12;", "take 0 8; end 0; take 0 2;");
        due("to the last cell: live", x.count(5), 1);
        due("used", x.page(0, 1), 12);
        x = Check.begun("cells 12;", "take 0 8; end 0; take 0 3;");
        due("one too many: live", x.count(5), 2);
        due("used", x.page(0, 1), 9);
        x = Check.begun("cells 12;", "take 0 4; end 0; tick 15; take 0 6;");
        due("without extension to the last cell: live", x.count(5), 1);
        due("used", x.page(0, 1), 12);
        x = Check.begun("cells 12;", "take 0 4; end 0; tick 16; take 0 3;");
        due("with extension to the last cell: live", x.count(5), 1);
        due("used", x.page(0, 1), 12);
        x = Check.begun("cells 12;", "take 0 4; end 0; tick 16; take 0 4;");
        due("with extension one too many: live", x.count(5), 2);
        due("used", x.page(0, 1), 5);
        due("used without extension", x.page(1, 1), 5);
        due("no extension was taken", x.count(13), 0);
        x = Check.begun("cells 12;", "take 0 8; end 0; take 0 2; end 0; take 0 1;");
        due("behind a full one: live", x.count(5), 2);
    }

    private static void theNextPage() {
        says("Else it comes to be the first one of the next PAGE: if that is not HEAD, it is TAIL then");
        TraceRing x = Check.begun("cells 12;", "take 0 8; end 0; ".repeat(3));
        due("live", x.count(5), 3);
        x.swap(false);
        due("the head's place", x.page(0, 5), 1);
        due("take, behind the last place", x.take(0, 8), 4);
        due("it is in the tail", x.open(0, 5), 2);
        due("whose place is 0 again", x.page(2, 5), 0);
        due("where it is first", x.open(0, 6), 0);
        due("nothing is overwritten", x.count(8), 0);
        x = Check.begun("cells 12; refuse;", "take 0 8; end 0; ".repeat(3));
        due("in refuse, too", x.count(5), 3);
        due("nothing is lost", x.count(7), 0);
    }

    private static void lostInRefuse() {
        says("in MODE refuse the RECORD is LOST");
        TraceRing x = Check.begun("pages 2; cells 12; refuse;", "take 0 8; end 0; take 0 8; end 0;");
        due("take(0, 3)", x.take(0, 3), -3);
        due("lost", x.count(7), 1);
        due("overwritten", x.count(8), 0);
        due("live", x.count(5), 2);
        due("what has room is not", x.take(0, 2), 4);
        x = Check.begun("pages 2; cells 12;", "take 0 8; end 0; take 0 8; end 0;");
        x.mode(false);
        due("the mode was over till now", x.take(0, 3), -3);
        x.mode(true);
        due("the mode is over again", x.take(0, 3), 4);
        due("overwritten", x.count(8), 1);
    }

    private static void lostInOver() {
        says("in MODE over it is LOST, if any OPEN RECORD is in that PAGE");
        TraceRing x = Check.begun("pages 2; cells 12;", "take 0 8; take 1 8;");
        due("the outermost of two is there", x.take(2, 8), -3);
        x = Check.begun("pages 2; cells 12;", "take 0 1; take 1 1; take 2 7;");
        due("the head is full", x.page(0, 1), 12);
        x.take(3, 8);
        x.end(3);
        due("three are there, no other is open", x.take(3, 8), -3);
        x = Check.begun("pages 2; cells 12;", "take 0 1; end 0; take 0 1; take 1 8; end 1;");
        due("the second one there is open", x.take(1, 8), -3);
        due("overwritten", x.count(8), 0);
        due("lost", x.count(7), 1);
        x = Check.begun("pages 2; cells 12;", "take 0 8; end 0; take 0 8;");
        due("the open one is in the tail alone", x.take(1, 8), 3);
        due("overwritten", x.count(8), 1);
        due("the open one is in the head now", x.take(2, 8), -3);
        due("lost", x.count(7), 1);
        x.end(1);
        x.end(0);
        due("none is open any more", x.take(2, 8), 5);
        due("overwritten", x.count(8), 2);
    }

    private static void overwritten() {
        says("else HEAD is the next one, all RECORDS in that PAGE are OVERWRITTEN, it is empty, and TAIL then");
        TraceRing x = Check.begun("pages 2; cells 12;",
            "tick 9; take 0 1; take 1 1; put 1 50; end 1; drop 0; take 0 7; put 0 51; end 0; tick 1; take 0 8; end 0;");
        due("records in the head", x.page(0, 3), 2);
        due("gaps in the head", x.page(0, 4), 1);
        due("take", x.take(0, 4), 5);
        due("two records were overwritten, no gap", x.count(8), 2);
        due("the head was the next one", x.page(0, 5), 1);
        due("its record", x.record(0, 0), 4);
        due("the tail's place", x.page(1, 5), 0);
        due("its stamp", x.page(1, 0), 10);
        due("its used", x.page(1, 1), 5);
        due("its ready", x.page(1, 2), 0);
        due("its records", x.page(1, 3), 1);
        due("its gaps", x.page(1, 4), 0);
        Check.cells(x, 1, 64, 0, 0, 0, 0, 0, 0, 0, 0, 0, 0, 0);
        due("live", x.count(5), 2);
        // a page of gaps alone comes round
        x = Check.begun("pages 2; cells 12;", "take 0 8; take 1 8; end 1; drop 0;");
        due("no record in the head", x.page(0, 3), 0);
        due("take", x.take(0, 8), 3);
        due("nothing is overwritten", x.count(8), 0);
        due("the head was the next one", x.page(0, 5), 1);
        due("gaps are gone", x.page(1, 4), 0);
        // an open one ahead in a head that is not the page to come
        x = Check.begun("pages 3; cells 12;", "take 0 8; end 0; take 0 8; take 1 8;");
        due("an open one is in the next head", x.take(2, 8), 4);
        due("overwritten", x.count(8), 1);
        due("in which live page", x.open(0, 5), 0);
    }

    private static void leftBehind() {
        says("If there is room in the PAGE left behind, its next CELL is 0: nothing is behind that");
        TraceRing x = Check.begun("cells 12;", "take 0 8; put 0 99; end 0; take 0 3;");
        Check.cells(x, 0, 128, 99, 0, 0, 0, 0, 0, 0, 0, 0, 0, 0);
        due("used", x.page(0, 1), 9);
        due("lie there", x.parsed(0, -1, 0), 1);
        x = Check.begun("cells 12;", "take 0 4; end 0; tick 16; take 0 4;");
        due("no extension stays behind", x.cell(0, 5), 0);
        x = Check.begun("cells 12;", "take 0 8; end 0; take 0 2; put 0 1; put 0 2; end 0; take 0 1;");
        due("without room there is none", x.page(0, 1), 12);
        due("the last cell", x.cell(0, 11), 2);
        due("lie there", x.parsed(0, -1, 0), 2);
    }

    private static void lostChangesNothing() {
        says("What is LOST changes nothing else");
        String[] rings = {"pages 2; cells 12; refuse;", "pages 2; cells 12;"};
        for (String ring : rings) {
            String script = "take 0 6; put 0 5; tick 9; take 1 8; put 1 6; tick 40;";
            TraceRing x = Check.begun(ring, script);
            TraceRing y = Check.begun(ring, script);
            due("take(3, 8)", x.take(3, 8), -3);
            Check.alike("lost", x, y, 6, 7, 33);
            due("numbers", x.count(6), 3);
            due("lost", x.count(7), 1);
            due("lost by 3", x.count(33), 1);
            due("it is not open: put", x.put(3, 1), -1);
            due("put of the innermost", x.put(1, 7), 6);
            due("end of the innermost", x.end(1), 1);
        }
    }

    private static void openWithData() {
        says("If it isn't LOST, it is OPEN: DATA are 0");
        TraceRing x = Check.begun("pages 2; cells 12;");
        for (int i = 0; i < 2; i++) {
            x.take(0, 8);
            for (int d = 0; d < 8; d++) {
                x.put(0, 200 + d);
            }
            x.end(0);
        }
        due("it comes in place of one with data", x.take(1, 8), 3);
        due("open", x.count(4), 1);
        due("its level", x.open(0, 1), 1);
        due("none was put", x.open(0, 4), 0);
        due("cells but for the first", x.sum(1, 1, 11), 0);
        x = Check.begun("", "take 0 2; put 0 77; put 0 78; drop 0; take 0 3;");
        due("it comes in place of one that went", x.sum(0, 1, 15), 0);
    }

    private static void openOnes() {
        says("the INNERMOST is the one TAKEN last");
        TraceRing x = Check.begun("", "take 0 1; take 2 1;");
        due("put(0, 1)", x.put(0, 1), -1);
        due("end(0)", x.end(0), -1);
        due("drop(0)", x.drop(0), -1);
        due("end(2)", x.end(2), 1);
        due("the one ahead is the innermost again", x.put(0, 1), 0);
        due("end(0)", x.end(0), 0);
        refusedLevels();
        nextCellOfData();
        endWhateverWasPut();
        readyInAllPages();
    }

    private static void refusedLevels() {
        says("REFUSED is a TAKE whose LEVEL is not above that of the INNERMOST");
        for (int inner = 0; inner <= 3; inner++) {
            for (int level = 0; level <= 3; level++) {
                TraceRing x = Check.begun("", "take " + inner + " 1;");
                due("take(" + level + ", 1) in " + inner, x.take(level, 1), level > inner ? 2 : -2);
                due("numbers", x.count(6), level > inner ? 2 : 1);
            }
        }
        TraceRing x = Check.begun("", "take 1 1; take 3 1; end 3;");
        due("not above the one that is innermost again", x.take(1, 1), -2);
        due("above it", x.take(2, 1), 3);
        x = Check.begun("", "take 3 1; end 3;");
        due("none is open: the lowest", x.take(0, 1), 2);
        x = Check.begun("pages 2; cells 12; refuse;", "take 0 8; take 1 8;");
        due("refused, and there is no room", x.take(1, 8), -2);
        due("that is not lost", x.count(7), 0);
    }

    private static void nextCellOfData() {
        says("PUT: the next CELL of DATA of the INNERMOST is a number");
        TraceRing x = Check.begun("", "take 0 3; put 0 9; tick 20; take 1 2; put 1 8; put 1 7; end 1; put 0 6; put 0 0;");
        Check.cells(x, 0, 48, 9, 6, 0, 244, 1, 0, 32, 8, 7, 0);
        due("a 0 was put, too", x.open(0, 4), 3);
        due("all have been put", x.put(0, 5), -1);
    }

    private static void endWhateverWasPut() {
        says("END: the INNERMOST is OPEN no more, whatever was put");
        for (int put = 0; put <= 2; put++) {
            TraceRing x = Check.begun("", "take 1 2;" + " put 1 40;".repeat(put));
            due("end with " + put + " put", x.end(1), 0);
            due("open", x.count(4), 0);
            due("ready", x.record(0, 3), 2);
            due("its first", x.record(0, 10), put > 0 ? 40 : 0);
            due("its second", x.record(0, 11), put > 1 ? 40 : 0);
        }
    }

    private static void readyInAllPages() {
        says("As none is OPEN any more, all that is USED is READY, in all PAGES");
        TraceRing x = Check.begun("cells 12;", "take 3 2; end 3; take 0 8; take 1 8; take 2 1;");
        due("ready ahead of the open ones", x.page(0, 2), 3);
        due("used", x.page(0, 1), 12);
        x.end(2);
        due("one was ended: ready", x.page(1, 2), 0);
        x.end(1);
        due("two were ended: ready", x.page(1, 2), 0);
        due("ready records", x.count(12), 1);
        x.end(0);
        due("all were ended: ready", x.page(0, 2), 12);
        due("in the next page, too", x.page(1, 2), 11);
        due("ready records", x.count(12), 4);
        x.take(0, 1);
        due("used of the next one", x.page(2, 1), 2);
        due("ready of the next one", x.page(2, 2), 0);
        due("ready stays", x.page(1, 2), 11);
    }

    private static void drops() {
        dropGoes();
        dropFreesCells();
        dropLeavesAnEmptyTail();
        dropLeavesAGap();
        dropIsLikeEnd();
    }

    private static void dropGoes() {
        says("if it is in TAIL, and nothing is behind it there");
        due("alone", Check.begun("", "take 0 1;").drop(0), 0);
        due("last of two", Check.begun("", "take 0 1; end 0; take 0 1;").drop(0), 0);
        due("inmost of two", Check.begun("", "take 0 1; take 1 1;").drop(1), 0);
        due("a record is behind it", Check.begun("", "take 0 1; take 1 1; end 1;").drop(0), 1);
        due("a gap is behind it, too",
            Check.begun("", "take 0 1; take 1 1; take 2 1; end 2; drop 1;").drop(0), 1);
        due("what was behind it went", Check.begun("", "take 0 1; take 1 1; drop 1;").drop(0), 0);
        due("all that was behind it went", Check.begun("", "take 0 1; take 1 1; take 2 1; drop 2; drop 1;").drop(0), 0);
        due("it is not in the tail", Check.begun("cells 12;", "take 0 8; take 1 8; end 1;").drop(0), 1);
        due("nor if the tail is empty", Check.begun("cells 12;", "take 0 8; take 1 8; drop 1;").drop(0), 1);
        due("it is in the tail, others are in the page ahead",
            Check.begun("cells 12;", "take 0 8; end 0; take 0 8;").drop(0), 0);
    }

    private static void dropFreesCells() {
        says("its CELLS (its EXTENSION, too) are 0, and free again (USED is what it was ahead of it;"
            + " the next DELTA goes by what is ahead of it then");
        TraceRing x = Check.begun("", "tick 2; take 0 1; put 0 99; end 0; tick 20; take 0 2; put 0 88; put 0 77;");
        Check.cells(x, 0, 16, 99, 244, 1, 0, 32, 88, 77, 0);
        due("used", x.page(0, 1), 8);
        due("drop", x.drop(0), 0);
        Check.cells(x, 0, 16, 99, 0, 0, 0, 0, 0, 0, 0);
        due("used ahead of it", x.page(0, 1), 2);
        due("ready", x.page(0, 2), 2);
        Check.done(x, "tick 3; take 0 1;");
        Check.cells(x, 0, 16, 99, 247, 1, 0, 16, 0, 0);
        x = Check.begun("", "take 0 1; end 0; tick 10; take 0 1; drop 0; tick 5; take 0 1;");
        due("by the one ahead of what went", x.cell(0, 2), 16 + 15);
        x = Check.begun("cells 12;", "take 0 8; end 0; take 0 2; drop 0; take 0 2;");
        due("the room is free again: live", x.count(5), 1);
    }

    private static void dropLeavesAnEmptyTail() {
        says("if there is nothing, the PAGE is empty, but stays TAIL");
        TraceRing x = Check.begun("", "tick 4; take 0 2; put 0 3; drop 0;");
        due("live", x.count(5), 1);
        due("stamp", x.page(0, 0), -1);
        due("used", x.page(0, 1), 0);
        due("sum", x.sum(0, 0, 16), 0);
        Check.done(x, "tick 40; take 0 2;");
        due("stamp anew", x.page(0, 0), 44);
        due("no delta", x.cell(0, 0), 32);
        x = Check.begun("pages 2; cells 12; refuse;", "take 0 8; end 0; take 0 8; drop 0;");
        due("live", x.count(5), 2);
        due("the tail's stamp", x.page(1, 0), -1);
        due("the tail's used", x.page(1, 1), 0);
        due("would", x.would(0, 8), 0);
        due("the next one comes there", x.take(0, 8), 3);
        due("live", x.count(5), 2);
        due("nothing comes back into the page ahead",
            Check.begun("cells 12;", "take 0 8; end 0; take 0 8; drop 0; take 0 1;").open(0, 5), 1);
    }

    private static void dropLeavesAGap() {
        says("its CELL ahead of DATA is 224 and what it had below 16, the first one of DATA is how many of these"
            + " there were, the others are 0 (an EXTENSION stays)");
        for (int n = 1; n <= 8; n++) {
            for (int delta = 0; delta <= 16; delta++) {
                TraceRing x = Check.begun("cells 32;", "take 3 1; end 3;");
                if (delta > 0) {
                    x.tick(delta);
                }
                x.take(0, n);
                for (int i = 0; i < n; i++) {
                    x.put(0, 100 + i);
                }
                Check.done(x, "take 1 1; end 1;");
                due("drop", x.drop(0), 1);
                int at = delta == 16 ? 5 : 2;
                due("its first cell", x.cell(0, at), 224 + delta % 16);
                due("how many there were", x.cell(0, at + 1), n);
                due("the others", x.sum(0, at + 2, n - 1), 0);
                due("what is behind it stays", x.cell(0, at + 1 + n), 16);
                if (delta == 16) {
                    Check.cells(x, 0, 16, 0, 240, 1, 0);
                }
                due("gaps", x.page(0, 4), 1);
                due("records", x.page(0, 3), 2);
            }
        }
    }

    private static void dropIsLikeEnd() {
        says("Then as by END");
        TraceRing x = Check.begun("", "take 0 2; put 0 5; take 1 1; end 1; take 1 1; drop 1;");
        due("one is open: ready", x.page(0, 2), 0);
        due("the one ahead is the innermost", x.put(0, 6), 0);
        due("drop", x.drop(0), 1);
        due("none is open", x.count(4), 0);
        due("ready", x.page(0, 2), 5);
        due("ready records", x.count(12), 1);
        x = Check.begun("cells 12;", "take 0 8; take 1 8; end 1; drop 0;");
        due("ready in all pages", x.page(0, 2) * 100 + x.page(1, 2), 909);
        x = Check.begun("cells 12;", "take 0 2; end 0; take 0 2; drop 0;");
        due("ready is no more than used", x.page(0, 2), 3);
    }

    private static void swaps() {
        headNotTail();
        headIsTail();
        notReadAreSkipped();
        readersPageComes();
        nextHead();
    }

    private static void headNotTail() {
        says("HEAD can be had, if it is not TAIL");
        TraceRing x = Check.begun("cells 12;", "take 0 8; end 0; take 0 8; end 0;");
        due("swap(false)", x.swap(false), 1);
        due("the next one is tail", x.swap(false), -1);
        x = Check.begun("cells 12;", "take 0 8; end 0; take 0 8;");
        due("one is open in the tail", x.swap(false), 1);
        x = Check.begun("cells 12;", "take 0 8; end 0; take 0 8; drop 0;");
        due("the tail is empty", x.swap(false), 1);
        due("an empty one is not had", x.swap(true), -1);
        x = Check.begun("cells 12;", "take 0 8; end 0; take 0 8; end 0;");
        due("force does no harm", x.swap(true), 1);
        says("not if any OPEN RECORD is in it");
        x = Check.begun("cells 12;", "take 0 8; take 1 8;");
        due("swap(false)", x.swap(false), -1);
        due("swap(true)", x.swap(true), -1);
        x.end(1);
        due("the outermost is still open", x.swap(true), -1);
        x.end(0);
        due("none is open", x.swap(false), 1);
        x = Check.begun("cells 12;", "take 1 1; end 1; take 0 1; take 1 8; end 1;");
        due("the second one there is open", x.swap(false), -1);
        due("swaps", x.count(14), 0);
    }

    private static void headIsTail() {
        says("or (force) if it is, and USED is above 0, and none is OPEN");
        TraceRing x = Check.begun("", "take 0 1; end 0;");
        due("without force", x.swap(false), -1);
        due("with force", x.swap(true), 1);
        due("empty at once", x.swap(true), -1);
        due("empty at first", new TraceRing().swap(true), -1);
        due("empty by a drop", Check.begun("", "take 0 1; drop 0;").swap(true), -1);
        x = Check.begun("", "take 0 1; end 0; take 0 1;");
        due("one is open", x.swap(true), -1);
        x.drop(0);
        due("none is open", x.swap(true), 1);
        x = Check.begun("cells 12;", "take 0 8; end 0; take 0 2; end 0;");
        due("a full one without force", x.swap(false), -1);
        due("a full one with force", x.swap(true), 2);
    }

    private static void notReadAreSkipped() {
        says("RECORDS of the READER'S PAGE that were not READ are SKIPPED");
        for (int read = 0; read <= 3; read++) {
            TraceRing x = Check.begun("", "take 0 1; end 0; take 0 1; end 0; take 1 1; end 1; force;");
            for (int i = 0; i < read; i++) {
                x.read();
            }
            due("ahead of the swap", x.count(10), 0);
            Check.done(x, "take 0 1; end 0; force;");
            due("skipped of three, " + read + " read", x.count(10), 3 - read);
        }
        TraceRing x = Check.begun("", "take 0 1; end 0; take 1 1; end 1; force;");
        x.mask(2);
        due("one is passed over", x.read(), 2);
        due("skipped", x.count(10), 1);
        Check.done(x, "take 0 1; end 0; force;");
        due("it is not skipped again", x.count(10), 1);
        x = Check.begun("", "take 0 1; take 1 1; end 1; drop 0; force; take 0 1; end 0;");
        due("skipped ahead of it", x.count(10), 0);
        due("swap", x.swap(true), 1);
        due("no gap is skipped", x.count(10), 1);
        x = Check.begun("", "take 0 1; end 0; force;");
        due("a swap that can not be", x.swap(true), -1);
        due("skips nothing", x.count(10), 0);
    }

    private static void readersPageComes() {
        says("that PAGE, empty, comes in place of HEAD, which is the READER'S PAGE then, read from its first one on");
        TraceRing x = Check.begun("pages 2; cells 12;",
            "tick 7; take 0 3; put 0 200; put 0 201; put 0 202; end 0; take 0 1; end 0; force;", "read 1;");
        due("the reader's used", x.page(-1, 1), 6);
        due("the reader's stamp", x.page(-1, 0), 7);
        Check.cells(x, -1, 48, 200, 201, 202, 16, 0);
        Check.cells(x, 0, 0, 0, 0, 0, 0, 0, 0, 0, 0, 0, 0, 0);
        due("the empty one's stamp", x.page(0, 0), -1);
        due("the empty one's used", x.page(0, 1), 0);
        due("the empty one's ready", x.page(0, 2), 0);
        due("the empty one's records", x.page(0, 3), 0);
        Check.done(x, "take 0 8; put 0 9; end 0; take 0 1; end 0; take 0 8; end 0; swap;");
        due("read from the first one on", x.read(), 3);
        due("read", x.read(), 4);
        due("no more", x.read(), -1);
        Check.done(x, "take 0 8; put 0 1; end 0;");
        due("the page that came is the tail", x.page(1, 5), 0);
        Check.cells(x, 1, 128, 1, 0, 0, 0, 0, 0, 0, 0, 0, 0, 0);
        x = Check.begun("cells 12;", "take 0 3; put 0 9; end 0; force; take 0 8; put 0 9; end 0; force;");
        due("the page that was read is empty", x.sum(0, 0, 12), 0);
        due("its first cell", x.cell(0, 0), 0);
    }

    private static void nextHead() {
        says("HEAD is the next PAGE then, but if it was TAIL, the empty one is HEAD and TAIL");
        TraceRing x = Check.begun("cells 12;", "take 0 8; end 0; ".repeat(5));
        due("the head's place", x.page(0, 5), 2);
        x.swap(false);
        due("behind the last place", x.page(0, 5), 0);
        due("live", x.count(5), 2);
        x.swap(false);
        due("the head's place", x.page(0, 5), 1);
        due("live", x.count(5), 1);
        x.swap(true);
        due("the empty one is head", x.page(0, 5), 1);
        due("and tail", x.count(5), 1);
        due("it is empty", x.page(0, 1), 0);
        Check.done(x, "take 0 8; end 0; take 0 8; end 0;");
        due("the next place", x.page(1, 5), 2);
        due("nothing more was overwritten", x.count(8), 2);
    }

    private static void reads() {
        says("whose LEVEL is in the MASK (LEVELS as bits; 15 at first)");
        String four = "take 0 1; end 0; take 1 1; end 1; take 2 1; end 2; take 3 1; end 3; force;";
        for (int mask = 0; mask <= 15; mask++) {
            TraceRing x = Check.begun("", four);
            due("mask(" + mask + ")", x.mask(mask), mask != 15);
            for (int level = 0; level <= 3; level++) {
                if ((mask & 1 << level) != 0) {
                    due("read in " + mask, x.read(), level + 1);
                }
            }
            due("no more in " + mask, x.read(), -1);
        }
        gapsArePassedOver();
        missing();
    }

    private static void gapsArePassedOver() {
        says("GAPS are passed over, RECORDS of other LEVELS, too, and are SKIPPED by that"
            + " (also where no next one comes: a READ of NONE does that)");
        TraceRing x = Check.begun("", "take 0 1; take 1 1; end 1; drop 0; take 0 1; end 0; take 2 1; end 2; force;");
        due("behind a gap", x.read(), 2);
        due("no gap is skipped", x.count(10), 0);
        x.mask(4);
        due("behind one of another level", x.read(), 4);
        due("skipped", x.count(10), 1);
        due("left", x.latest(5), 0);
        x = Check.begun("", "take 0 1; end 0; take 1 1; end 1; take 0 1; end 0; force;");
        x.mask(2);
        due("read", x.read(), 2);
        due("none comes", x.read(), -1);
        due("skipped, ahead of it and behind it", x.count(10), 2);
        x.mask(15);
        due("none comes back", x.read(), -1);
        due("nothing is skipped twice", x.count(10), 2);
        due("read so far", x.count(11), 1);
        x = Check.begun("", "take 0 1; end 0; take 1 1; end 1; mask 0; force;");
        due("a mask of none", x.read(), -1);
        due("both are skipped", x.count(10), 2);
        due("nothing was read", x.latest(0), -2);
        due("an empty reader's page", new TraceRing().read(), -1);
    }

    private static void missing() {
        says("how many NUMBERS there are between the one READ ahead of it (0 at first) and its own");
        TraceRing x = Check.begun("", "take 0 1; end 0; take 0 1; end 0; force; read 2;");
        due("of the second, next one", x.latest(4), 0);
        x = Check.begun("", "take 0 1; end 0; force; read 1;");
        due("of the first, number 1", x.latest(4), 0);
        x = Check.begun("", "take 0 1; drop 0; take 0 1; drop 0; take 0 1; end 0; force; read 1;");
        due("of the first, number 3", x.latest(4), 2);
        x = Check.begun("pages 2; cells 12; refuse;",
            "take 0 8; end 0; take 0 8; end 0; take 0 8; take 0 8; swap; read 1; take 0 8; end 0; swap; read 1;");
        due("of number 2", x.latest(4), 0);
        Check.done(x, "force; read 1;");
        due("behind two that were lost", x.latest(4), 2);
        x = Check.begun("pages 2; cells 12;", "take 0 8; end 0; ".repeat(5), "swap; read 1;");
        due("behind three that were overwritten", x.latest(4), 3);
        x = Check.begun("", "take 1 1; end 1; take 0 1; end 0; take 1 1; end 1; mask 2; force; read 2;");
        due("behind one that was skipped", x.latest(4), 1);
        due("ring()", x.ring(), 48);
        Check.done(x, "take 0 1; end 0; take 0 1; end 0; force; read 1;");
        due("0 again after ring()", x.latest(4), 0);
    }

    private static void resizes() {
        says("RESIZE, if none is OPEN");
        TraceRing x = Check.begun("", "take 0 1;");
        due("one is open", x.resize(4), -1);
        due("pages", x.count(0), 3);
        x.end(0);
        due("none is open", x.resize(4), 0);
        due("pages", x.count(0), 4);
        asLongAsMoreAreLive();
        othersStayInOrder();
    }

    private static void asLongAsMoreAreLive() {
        says("as long as more than n are LIVE, all RECORDS in HEAD are OVERWRITTEN, HEAD goes, the next one is HEAD");
        for (int pages = 2; pages <= 5; pages++) {
            TraceRing x = Check.begun("pages 6; cells 12;", "take 0 8; end 0; take 0 2; end 0; ".repeat(4));
            due("four are live", x.count(5), 4);
            int gone = Math.max(0, 4 - pages);
            due("resize(" + pages + ")", x.resize(pages), 2 * gone);
            due("overwritten", x.count(8), 2 * gone);
            due("live", x.count(5), 4 - gone);
            due("the first record", x.record(0, 0), 1 + 2 * gone);
            due("ready", x.count(12), 8 - 2 * gone);
        }
        TraceRing x = Check.begun("cells 12;", "take 0 8; take 1 8; end 1; drop 0; take 0 8; end 0;");
        due("three are live", x.count(5), 3);
        due("a page of gaps alone goes", x.resize(2), 0);
        due("two are live", x.count(5), 2);
        due("overwritten", x.count(8), 0);
        due("the first record", x.record(0, 0), 2);
        x = Check.begun("cells 12;", "take 0 8; end 0; take 0 8; end 0; take 0 8; drop 0;");
        due("the tail is empty, and stays", x.resize(2), 1);
        due("the tail's used", x.page(1, 1), 0);
        due("the head's record", x.record(0, 0), 2);
    }

    private static void othersStayInOrder() {
        says("all others that are LIVE stay, in their order; HEAD has place 0 then, empty ones come behind TAIL");
        TraceRing x = Check.begun("cells 12;", "take 0 8; put 0 1; end 0; take 0 8; put 0 2; end 0;",
            "take 0 8; put 0 3; end 0; take 0 8; put 0 4; end 0; take 0 8; put 0 5; end 0;");
        due("the head's place", x.page(0, 5), 2);
        due("resize(5)", x.resize(5), 0);
        for (int k = 0; k < 3; k++) {
            due("place", x.page(k, 5), k);
            due("its record", x.record(k, 0), 3 + k);
            due("its data", x.cell(k, 1), 3 + k);
            due("its ready", x.page(k, 2), 9);
        }
        for (int k = 3; k < 5; k++) {
            x.take(0, 8);
            x.end(0);
            due("an empty one came behind the tail", x.page(k, 5), k);
            due("it was empty", x.sum(k, 0, 12), 128);
        }
        due("nothing more was overwritten", x.count(8), 2);
        x.take(0, 8);
        x.end(0);
        due("now the head is", x.count(8), 3);
        due("the tail's place", x.page(4, 5), 0);
        due("resize(2) in the midst", x.resize(2), 3);
        due("places", x.page(0, 5) * 10 + x.page(1, 5), 1);
        due("records", x.record(0, 0) * 10 + x.record(1, 0), 78);
        // the reader's page is none of them
        x = Check.begun("cells 12;", "take 0 8; end 0; take 0 8; end 0; swap;");
        due("resize(2)", x.resize(2), 0);
        due("the reader's page stays", x.page(-1, 1), 9);
        due("read", x.read(), 1);
    }

    private static void parses() {
        says("by its CELLS below USED and its STAMP alone: what lies there, one behind the other");
        due("nothing lies in an empty one", new TraceRing().parsed(0, -1, 0), 0);
        TraceRing x = Check.begun("cells 32;", "take 0 1; end 0; ".repeat(16));
        due("sixteen lie in a full one", x.parsed(0, -1, 0), 16);
        due("where the last is", x.parsed(0, 15, 1), 30);
        due("no more", x.parsed(0, 16, 1), -2);
        x = Check.begun("cells 32;", "tick 16; take 0 1; end 0; tick 16; take 0 1; end 0; tick 16; take 0 1; end 0;",
            "tick 16; take 0 1; end 0; tick 4096; take 0 1; end 0; tick 16; take 0 1; end 0; tick 15; take 0 2; end 0;");
        due("extensions lie there, too", x.parsed(0, -1, 0), 12);
        due("used", x.page(0, 1), 30);
        due("the last one's time", x.parsed(0, 11, 3), 16 * 5 + 4096 + 15);
        x = Check.begun("", "take 0 2; put 0 255; put 0 240;");
        due("data are none of it", x.parsed(0, -1, 0), 1);
        x = Check.begun("", "take 0 1; end 0; take 0 2; put 0 99;");
        due("open ones lie there, too", x.parsed(0, -1, 0), 2);
        x.drop(0);
        due("what went does not", x.parsed(0, -1, 0), 1);
    }
}
