/**
 * A ring of pages into which writers that break in on one another lay down
 * what they trace, and a reader who takes whole pages for a spare one. The
 * promises that the methods keep are those of ../shared/DOC.md.
 */
public final class TraceRing {
    public static final int NONE = -1;

    /** What a question answers where there is nothing of that kind. */
    private static final int UNKNOWN = -2;

    /** What a TAKE would do, as would() tells it. */
    private static final int HAS_ROOM = 0;
    private static final int BEGINS_EMPTY = 1;
    private static final int OVERWRITES = 2;
    private static final int REFUSED = -2;
    private static final int LOST = -3;

    private static final int FIRST_PAGES = 3;
    private static final int LEAST_PAGES = 2;
    private static final int MOST_PAGES = 6;
    private static final int FIRST_CELLS = 16;
    private static final int LEAST_CELLS = 12;
    private static final int MOST_CELLS = 32;
    private static final int MOST_DATA = 8;
    /** What lies in a page has two cells at the least, so 32 cells hold no more. */
    private static final int MOST_ITEMS = 16;
    private static final int LEVELS = 4;
    private static final int ALL_LEVELS = 15;
    private static final int MOST_TICK = 5000;
    private static final int LATEST_TIME = 999999;
    private static final int MOST_STORM = 60;
    private static final int MOST_READS = 99;
    private static final int MOST_BYTES = 400;
    /** The shortest lines, as "swap;", have five bytes: no text has more of them. */
    private static final int MOST_LINES = 80;
    private static final int IMAGES = 3;

    /** The first cell of an extension is this and above, that of a gap is below it. */
    private static final int EXTENSION_CELL = 240;
    private static final int GAP_CELL = 224;
    private static final int EXTENSION_SIZE = 3;
    private static final int MOST_SHORT_DELTA = 15;

    /** What lies in a page, as parsed() tells it. */
    private static final int A_RECORD = 0;
    private static final int A_GAP = 1;
    private static final int AN_EXTENSION = 2;

    /** What is tallied since ring(): its place is the number that count() asks for. */
    private static final int GIVEN = 6;
    private static final int ALL_LOST = 7;
    private static final int OVERWRITTEN = 8;
    private static final int DROPPED = 9;
    private static final int SKIPPED = 10;
    private static final int ALL_READ = 11;
    private static final int READY_RECORDS = 12;
    private static final int EXTENSIONS = 13;
    private static final int SWAPS = 14;
    private static final int TEXT_BYTES = 15;
    private static final int LONGEST = 16;
    private static final int LONGEST_NUMBER = 17;
    private static final int GREATEST_DELTA = 18;
    private static final int MOST_OPEN = 19;
    private static final int TAKEN_BY = 20;
    private static final int LOST_BY = 30;
    private static final int THE_MASK = 40;
    private static final int TALLIES = 34;

    private static final int THE_END = 0;
    private static final int A_WORD = 1;
    private static final int A_NUMBER = 2;
    private static final int THE_SIGN = 3;
    private static final int NO_TOKEN = 4;
    private static final int MOST_DIGITS = 6;

    private static final int NO_FAULT = 0;
    private static final int WRONG_TOKEN = 1;
    private static final int WRONG_NUMBER = 2;

    /** The verbs of RING are the first four, those of SCRIPT come behind them. */
    private static final int PAGES = 0;
    private static final int CELLS = 1;
    private static final int OVER = 2;
    private static final int REFUSE = 3;
    private static final int TICK = 4;
    private static final int TAKE = 5;
    private static final int PUT = 6;
    private static final int END = 7;
    private static final int DROP = 8;
    private static final int SWAP = 9;
    private static final int FORCE = 10;
    private static final int READ = 11;
    private static final int MASK = 12;
    private static final int RESIZE = 13;

    private final Ring ring = new Ring();
    /** Here is tried what must not stay. */
    private final Ring spare = new Ring();
    private final Text text = new Text();
    private final Lines lines = new Lines();
    private final Storm storm = new Storm();
    private final Image[] images = new Image[IMAGES];

    public TraceRing() {
        for (int k = 0; k < IMAGES && k < images.length; k++) {
            images[k] = new Image();
        }
    }

    public int tell(long eight) {
        return text.append(eight);
    }

    public int ring() {
        boolean understood = lines.understand(text, PAGES, REFUSE);
        text.length = 0;
        if (!understood) {
            return NONE;
        }
        lines.found(ring);
        return ring.pageCount * ring.cellCount;
    }

    public int script() {
        boolean understood = lines.understand(text, TICK, RESIZE);
        text.length = 0;
        return understood ? lines.carryOut(ring) : NONE;
    }

    public int fault(boolean place) {
        return place ? text.faultPlace : text.fault;
    }

    public int tick(int n) {
        return ring.goOn(n);
    }

    public int take(int level, int n) {
        return ring.takeRoom(level, n);
    }

    public int put(int level, int number) {
        return ring.putData(level, number);
    }

    public int end(int level) {
        return ring.endInnermost(level);
    }

    public int drop(int level) {
        return ring.dropInnermost(level);
    }

    public int swap(boolean force) {
        return ring.swapHead(force);
    }

    public int read() {
        return ring.readNext();
    }

    public boolean mode(boolean over) {
        boolean other = ring.over != over;
        ring.over = over;
        return other;
    }

    public boolean mask(int levels) {
        return ring.maskBy(levels);
    }

    public int resize(int pages) {
        return ring.changePages(pages);
    }

    public int storm(int seed, int n) {
        if (!isStorm(n)) {
            return NONE;
        }
        int lostAhead = ring.figure(ALL_LOST);
        storm.blow(ring, seed, n);
        return ring.figure(ALL_LOST) - lostAhead;
    }

    public int count(int what) {
        return what == TEXT_BYTES ? text.length : ring.figure(what);
    }

    public int page(int k, int what) {
        Page asked = ring.pageOf(k);
        if (asked == null) {
            return UNKNOWN;
        }
        if (what == 5) {
            return k == NONE ? NONE : ring.placeOf(k);
        }
        return asked.figure(what);
    }

    public int cell(int k, int i) {
        Page asked = ring.pageOf(k);
        if (asked == null || i < 0 || i >= ring.cellCount) {
            return NONE;
        }
        return at(asked.cells, i);
    }

    public int open(int k, int what) {
        return ring.openFigure(k, what);
    }

    public int record(int k, int what) {
        return ring.readyFigure(k, what);
    }

    public int latest(int what) {
        return what == 5 ? ring.reader.recordsFrom(ring.nextToRead) : ring.latest.figure(what);
    }

    public int parsed(int k, int i, int what) {
        Page asked = ring.pageOf(k);
        if (asked == null) {
            return UNKNOWN;
        }
        if (i == NONE) {
            return what == 0 ? asked.howManyLie() : UNKNOWN;
        }
        return asked.parse(i, what);
    }

    public int between(int from, int to, boolean first) {
        return first ? ring.firstWithin(from, to) : ring.howManyWithin(from, to);
    }

    public int sum(int k, int from, int many) {
        Page asked = ring.pageOf(k);
        if (asked == null || many < 0 || from < 0) {
            return NONE;
        }
        if (from > ring.cellCount || many > ring.cellCount - from) {
            return NONE;
        }
        return asked.sumOf(from, many);
    }

    public int would(int level, int n) {
        return ring.wayOf(level, n);
    }

    public int room(int n) {
        return ring.roomFor(n);
    }

    public int after(int seed, int n, int what) {
        if (!isStorm(n)) {
            return NONE;
        }
        if (what == TEXT_BYTES) {
            return text.length;
        }
        spare.copyFrom(ring);
        storm.blow(spare, seed, n);
        return spare.figure(what);
    }

    public int fewest(int seed, int n) {
        if (!isStorm(n)) {
            return NONE;
        }
        for (int pages = LEAST_PAGES; pages <= MOST_PAGES; pages++) {
            spare.begin(pages, ring.cellCount, ring.over);
            storm.blow(spare, seed, n);
            if (spare.figure(ALL_LOST) == 0 && spare.figure(OVERWRITTEN) == 0) {
                return pages;
            }
        }
        return NONE;
    }

    public boolean image(int k) {
        Image asked = imageOf(k);
        if (asked == null) {
            return false;
        }
        asked.ring.copyFrom(ring);
        asked.text.copyFrom(text);
        asked.isKept = true;
        return true;
    }

    public boolean again(int k) {
        Image asked = imageOf(k);
        if (asked == null || !asked.isKept) {
            return false;
        }
        ring.copyFrom(asked.ring);
        text.copyFrom(asked.text);
        return true;
    }

    private Image imageOf(int k) {
        return k < 0 || k >= images.length ? null : images[k];
    }

    private static boolean isStorm(int n) {
        return n >= 1 && n <= MOST_STORM;
    }

    /** An element of a row, 0 outside of it: so no index is used untested. */
    private static int at(int[] row, int i) {
        return i < 0 || i >= row.length ? 0 : row[i];
    }

    private static void set(int[] row, int i, int value) {
        if (i >= 0 && i < row.length) {
            row[i] = value;
        }
    }

    private static void copyRow(int[] from, int[] to) {
        System.arraycopy(from, 0, to, 0, Math.min(from.length, to.length));
    }

    /** A page: its cells, and who laid what into them (items: records and gaps, in their order). */
    private static final class Page {
        final int[] cells = new int[MOST_CELLS];
        final int[] number = new int[MOST_ITEMS];
        final int[] level = new int[MOST_ITEMS];
        final int[] time = new int[MOST_ITEMS];
        final int[] start = new int[MOST_ITEMS];
        final int[] header = new int[MOST_ITEMS];
        final int[] dataSize = new int[MOST_ITEMS];
        final boolean[] gap = new boolean[MOST_ITEMS];
        int items;
        int used;
        int ready;

        void clear() {
            for (int i = 0; i < cells.length; i++) {
                cells[i] = 0;
            }
            items = 0;
            used = 0;
            ready = 0;
        }

        void copyFrom(Page other) {
            copyRow(other.cells, cells);
            copyRow(other.number, number);
            copyRow(other.level, level);
            copyRow(other.time, time);
            copyRow(other.start, start);
            copyRow(other.header, header);
            copyRow(other.dataSize, dataSize);
            for (int i = 0; i < gap.length && i < other.gap.length; i++) {
                gap[i] = other.gap[i];
            }
            items = other.items;
            used = other.used;
            ready = other.ready;
        }

        boolean isRecord(int item) {
            return item >= 0 && item < items && item < gap.length && !gap[item];
        }

        /** What goes by from what lies last till now; 0, if nothing lies here. */
        int deltaAt(int now) {
            int last = items - 1;
            return last < 0 || last >= time.length ? 0 : now - time[last];
        }

        int sizeFor(int now, int data) {
            return deltaAt(now) > MOST_SHORT_DELTA ? EXTENSION_SIZE + 1 + data : 1 + data;
        }

        /** Lays a record down behind what is used: which item it is. */
        int layDown(int itsNumber, int itsLevel, int now, int data) {
            int item = items;
            int delta = deltaAt(now);
            boolean extended = delta > MOST_SHORT_DELTA;
            if (extended) {
                set(cells, used, EXTENSION_CELL + delta % 16);
                set(cells, used + 1, delta / 16 % 256);
                set(cells, used + 2, delta / 4096);
            }
            int headerCell = extended ? used + EXTENSION_SIZE : used;
            set(cells, headerCell, extended ? 16 * data : 16 * data + delta);
            set(number, item, itsNumber);
            set(level, item, itsLevel);
            set(time, item, now);
            set(start, item, used);
            set(header, item, headerCell);
            set(dataSize, item, data);
            if (item >= 0 && item < gap.length) {
                gap[item] = false;
            }
            items = item + 1;
            used = headerCell + 1 + data;
            return item;
        }

        /** The last item goes, its extension, too. */
        void takeBack() {
            if (items > 0) {
                items--;
                int from = at(start, items);
                for (int i = from; i < used; i++) {
                    set(cells, i, 0);
                }
                used = from;
            }
        }

        void leaveGap(int item) {
            int itsHeader = at(header, item);
            int data = at(dataSize, item);
            set(cells, itsHeader, GAP_CELL + at(cells, itsHeader) % 16);
            set(cells, itsHeader + 1, data);
            for (int i = 1; i < data; i++) {
                set(cells, itsHeader + 1 + i, 0);
            }
            if (item >= 0 && item < gap.length) {
                gap[item] = true;
            }
        }

        int recordsFrom(int item) {
            int found = 0;
            for (int i = item; i < items; i++) {
                if (isRecord(i)) {
                    found++;
                }
            }
            return found;
        }

        boolean isReady(int item) {
            return isRecord(item) && at(header, item) < ready;
        }

        int readyRecords() {
            int found = 0;
            for (int i = 0; i < items; i++) {
                if (isReady(i)) {
                    found++;
                }
            }
            return found;
        }

        /** Which item the k-th record is. */
        int itemOfRecord(int k) {
            int left = k;
            for (int i = 0; i < items; i++) {
                if (isRecord(i)) {
                    if (left == 0) {
                        return i;
                    }
                    left--;
                }
            }
            return NONE;
        }

        int figure(int what) {
            int records = recordsFrom(0);
            switch (what) {
                case 0:
                    return items == 0 ? NONE : at(time, 0);
                case 1:
                    return used;
                case 2:
                    return ready;
                case 3:
                    return records;
                case 4:
                    return items - records;
                default:
                    return UNKNOWN;
            }
        }

        /** What record() and open() tell alike. */
        int itemFigure(int item, int what) {
            switch (what) {
                case 0:
                    return at(number, item);
                case 1:
                    return at(level, item);
                case 2:
                    return at(time, item);
                case 3:
                    return at(dataSize, item);
                default:
                    return UNKNOWN;
            }
        }

        int dataOf(int item, int i) {
            return at(cells, at(header, item) + 1 + i);
        }

        int sumOf(int from, int many) {
            int together = 0;
            for (int i = 0; i < many; i++) {
                together += at(cells, from + i);
            }
            return together;
        }

        int kindAt(int cell) {
            int first = at(cells, cell);
            if (first >= EXTENSION_CELL) {
                return AN_EXTENSION;
            }
            return first >= GAP_CELL ? A_GAP : A_RECORD;
        }

        int dataAt(int cell) {
            switch (kindAt(cell)) {
                case A_RECORD:
                    return at(cells, cell) / 16;
                case A_GAP:
                    return at(cells, cell + 1);
                default:
                    return 0;
            }
        }

        int sizeAt(int cell) {
            return kindAt(cell) == AN_EXTENSION ? EXTENSION_SIZE : 1 + dataAt(cell);
        }

        int deltaToldAt(int cell) {
            int low = at(cells, cell) % 16;
            if (kindAt(cell) != AN_EXTENSION) {
                return low;
            }
            return low + 16 * at(cells, cell + 1) + 4096 * at(cells, cell + 2);
        }

        int howManyLie() {
            int many = 0;
            int cell = 0;
            for (int i = 0; i < MOST_CELLS && cell < used; i++) {
                cell += sizeAt(cell);
                many++;
            }
            return many;
        }

        /** Of the i-th of what lies here, by the cells and the stamp alone. */
        int parse(int i, int what) {
            if (i < 0) {
                return UNKNOWN;
            }
            int cell = 0;
            int told = at(time, 0);
            for (int k = 0; k < i && cell < used; k++) {
                told += deltaToldAt(cell);
                cell += sizeAt(cell);
            }
            if (cell >= used) {
                return UNKNOWN;
            }
            int delta = deltaToldAt(cell);
            switch (what) {
                case 0:
                    return kindAt(cell);
                case 1:
                    return cell;
                case 2:
                    return sizeAt(cell);
                case 3:
                    return kindAt(cell) == AN_EXTENSION ? delta : told + delta;
                case 4:
                    return dataAt(cell);
                default:
                    return UNKNOWN;
            }
        }
    }

    /** What was read last; its data are copied, for its page may go. */
    private static final class Latest {
        final int[] data = new int[MOST_DATA];
        /** 0, as long as nothing was read. */
        int number;
        int level;
        int time;
        int dataSize;
        int missing;

        void clear() {
            number = 0;
            level = 0;
            time = 0;
            dataSize = 0;
            missing = 0;
        }

        void copyFrom(Latest other) {
            copyRow(other.data, data);
            number = other.number;
            level = other.level;
            time = other.time;
            dataSize = other.dataSize;
            missing = other.missing;
        }

        void note(Page page, int item) {
            int next = at(page.number, item);
            missing = next - number - 1;
            number = next;
            level = at(page.level, item);
            time = at(page.time, item);
            dataSize = at(page.dataSize, item);
            int ahead = at(page.header, item) + 1;
            for (int i = 0; i < dataSize; i++) {
                set(data, i, at(page.cells, ahead + i));
            }
        }

        int figure(int what) {
            if (number == 0) {
                return UNKNOWN;
            }
            if (what >= 10 && what - 10 < dataSize) {
                return at(data, what - 10);
            }
            switch (what) {
                case 0:
                    return number;
                case 1:
                    return level;
                case 2:
                    return time;
                case 3:
                    return dataSize;
                case 4:
                    return missing;
                default:
                    return UNKNOWN;
            }
        }
    }

    /** The ring with its reader: all that acts change, but for the text. */
    private static final class Ring {
        /** By their places; those from pageCount on are empty, and wait for a resize. */
        final Page[] pages = new Page[MOST_PAGES];
        final int[] openPlace = new int[LEVELS];
        final int[] openItem = new int[LEVELS];
        final int[] openPut = new int[LEVELS];
        final int[] tally = new int[TALLIES];
        final Latest latest = new Latest();
        Page reader = new Page();
        int nextToRead;
        int pageCount;
        int cellCount;
        boolean over;
        int now;
        int head;
        int live;
        int levelMask;
        int openCount;

        Ring() {
            for (int i = 0; i < pages.length; i++) {
                pages[i] = new Page();
            }
            begin(FIRST_PAGES, FIRST_CELLS, true);
        }

        void begin(int newPages, int newCells, boolean newOver) {
            for (int i = 0; i < MOST_PAGES; i++) {
                pageAt(i).clear();
            }
            for (int i = 0; i < tally.length; i++) {
                tally[i] = 0;
            }
            set(tally, LONGEST_NUMBER, NONE);
            reader.clear();
            latest.clear();
            nextToRead = 0;
            pageCount = newPages;
            cellCount = newCells;
            over = newOver;
            now = 0;
            head = 0;
            live = 1;
            levelMask = ALL_LEVELS;
            openCount = 0;
        }

        void copyFrom(Ring other) {
            for (int i = 0; i < MOST_PAGES; i++) {
                pageAt(i).copyFrom(other.pageAt(i));
            }
            reader.copyFrom(other.reader);
            latest.copyFrom(other.latest);
            copyRow(other.openPlace, openPlace);
            copyRow(other.openItem, openItem);
            copyRow(other.openPut, openPut);
            copyRow(other.tally, tally);
            nextToRead = other.nextToRead;
            pageCount = other.pageCount;
            cellCount = other.cellCount;
            over = other.over;
            now = other.now;
            head = other.head;
            live = other.live;
            levelMask = other.levelMask;
            openCount = other.openCount;
        }

        Page pageAt(int place) {
            if (place < 0 || place >= pages.length || pages[place] == null) {
                return reader;
            }
            return pages[place];
        }

        /** The place of the k-th live page. */
        int placeOf(int k) {
            int place = head + k;
            return place < pageCount ? place : place - pageCount;
        }

        /** The k-th live page, the reader's for NONE; null, if there is no such page. */
        Page pageOf(int k) {
            if (k == NONE) {
                return reader;
            }
            return k < 0 || k >= live ? null : pageAt(placeOf(k));
        }

        int tailPlace() {
            return placeOf(live - 1);
        }

        void raise(int what, int by) {
            set(tally, what, at(tally, what) + by);
        }

        void raiseTo(int what, int least) {
            set(tally, what, Math.max(at(tally, what), least));
        }

        int goOn(int n) {
            if (n < 1 || n > MOST_TICK || n > LATEST_TIME - now) {
                return NONE;
            }
            now += n;
            return now;
        }

        /** NONE, if none is open: every level is above that. */
        int innermostLevel() {
            int inner = openCount - 1;
            return inner < 0 ? NONE : at(pageAt(at(openPlace, inner)).level, at(openItem, inner));
        }

        boolean isInnermost(int level) {
            return openCount > 0 && innermostLevel() == level;
        }

        boolean isOpenIn(int place) {
            for (int i = 0; i < openCount; i++) {
                if (at(openPlace, i) == place) {
                    return true;
                }
            }
            return false;
        }

        int wayOf(int level, int data) {
            if (level < 0 || level >= LEVELS || data < 1 || data > MOST_DATA) {
                return NONE;
            }
            if (level <= innermostLevel()) {
                return REFUSED;
            }
            Page tail = pageAt(tailPlace());
            if (tail.sizeFor(now, data) <= cellCount - tail.used) {
                return HAS_ROOM;
            }
            if (live < pageCount) {
                return BEGINS_EMPTY;
            }
            return !over || isOpenIn(head) ? LOST : OVERWRITES;
        }

        int takeRoom(int level, int data) {
            int way = wayOf(level, data);
            if (way == NONE || way == REFUSED) {
                return way;
            }
            raise(GIVEN, 1);
            if (way == LOST) {
                raise(ALL_LOST, 1);
                raise(LOST_BY + level, 1);
                return LOST;
            }
            if (way == OVERWRITES) {
                overwriteHead();
            }
            if (way != HAS_ROOM) {
                live++;
            }
            openBehindTail(level, data);
            return at(tally, GIVEN);
        }

        /** The head is left empty, behind the tail. */
        int overwriteHead() {
            Page gone = pageAt(head);
            int records = gone.recordsFrom(0);
            gone.clear();
            head = placeOf(1);
            live--;
            raise(OVERWRITTEN, records);
            return records;
        }

        void openBehindTail(int level, int data) {
            Page tail = pageAt(tailPlace());
            int delta = tail.deltaAt(now);
            if (delta > MOST_SHORT_DELTA) {
                raise(EXTENSIONS, 1);
            }
            set(openPlace, openCount, tailPlace());
            set(openItem, openCount, tail.layDown(at(tally, GIVEN), level, now, data));
            set(openPut, openCount, 0);
            openCount++;
            raise(TAKEN_BY + level, 1);
            raiseTo(GREATEST_DELTA, delta);
            raiseTo(MOST_OPEN, openCount);
        }

        int putData(int level, int number) {
            if (number < 0 || number > 255 || !isInnermost(level)) {
                return NONE;
            }
            int inner = openCount - 1;
            Page page = pageAt(at(openPlace, inner));
            int item = at(openItem, inner);
            int done = at(openPut, inner);
            int left = at(page.dataSize, item) - done;
            if (left < 1) {
                return NONE;
            }
            set(page.cells, at(page.header, item) + 1 + done, number);
            set(openPut, inner, done + 1);
            return left - 1;
        }

        int endInnermost(int level) {
            if (!isInnermost(level)) {
                return NONE;
            }
            int inner = openCount - 1;
            Page page = pageAt(at(openPlace, inner));
            int item = at(openItem, inner);
            int lasted = now - at(page.time, item);
            if (at(tally, LONGEST_NUMBER) == NONE || lasted > at(tally, LONGEST)) {
                set(tally, LONGEST, lasted);
                set(tally, LONGEST_NUMBER, at(page.number, item));
            }
            closeInnermost();
            return openCount;
        }

        int dropInnermost(int level) {
            if (!isInnermost(level)) {
                return NONE;
            }
            int inner = openCount - 1;
            int place = at(openPlace, inner);
            int item = at(openItem, inner);
            Page page = pageAt(place);
            boolean goes = place == tailPlace() && item == page.items - 1;
            if (goes) {
                page.takeBack();
            } else {
                page.leaveGap(item);
            }
            raise(DROPPED, 1);
            closeInnermost();
            return goes ? 0 : 1;
        }

        void closeInnermost() {
            openCount--;
            if (openCount == 0) {
                for (int k = 0; k < live; k++) {
                    Page page = pageAt(placeOf(k));
                    page.ready = page.used;
                }
            }
        }

        boolean canHeadBeHad(boolean force) {
            if (live > 1) {
                return !isOpenIn(head);
            }
            return force && pageAt(head).used > 0 && openCount == 0;
        }

        int swapHead(boolean force) {
            if (!canHeadBeHad(force) || head < 0 || head >= pages.length) {
                return NONE;
            }
            raise(SKIPPED, reader.recordsFrom(nextToRead));
            raise(SWAPS, 1);
            Page had = pageAt(head);
            reader.clear();
            pages[head] = reader;
            reader = had;
            nextToRead = 0;
            if (live > 1) {
                head = placeOf(1);
                live--;
            }
            return reader.recordsFrom(0);
        }

        int readNext() {
            while (nextToRead < reader.items) {
                int item = nextToRead;
                nextToRead++;
                if (reader.isRecord(item)) {
                    if ((levelMask >> at(reader.level, item) & 1) == 1) {
                        latest.note(reader, item);
                        raise(ALL_READ, 1);
                        return latest.number;
                    }
                    raise(SKIPPED, 1);
                }
            }
            return NONE;
        }

        /** As many reads, as far as there are any: whether anything was read. */
        boolean readSome(int many) {
            int done = 0;
            while (done < many && readNext() != NONE) {
                done++;
            }
            return done > 0;
        }

        boolean maskBy(int levels) {
            if (levels < 0 || levels > ALL_LEVELS || levels == levelMask) {
                return false;
            }
            levelMask = levels;
            return true;
        }

        int changePages(int many) {
            if (many < LEAST_PAGES || many > MOST_PAGES || many == pageCount || openCount > 0) {
                return NONE;
            }
            int gone = 0;
            for (int tooMany = live - many; tooMany > 0; tooMany--) {
                gone += overwriteHead();
            }
            for (int turns = head; turns > 0; turns--) {
                turnByOne();
            }
            head = 0;
            pageCount = many;
            return gone;
        }

        /** The page at place 0 comes behind all others of the ring. */
        void turnByOne() {
            Page first = pageAt(0);
            for (int i = 1; i < pageCount && i < pages.length; i++) {
                pages[i - 1] = pages[i];
            }
            if (pageCount >= 1 && pageCount <= pages.length) {
                pages[pageCount - 1] = first;
            }
        }

        int figure(int what) {
            switch (what) {
                case 0:
                    return pageCount;
                case 1:
                    return cellCount;
                case 2:
                    return over ? 1 : 0;
                case 3:
                    return now;
                case 4:
                    return openCount;
                case 5:
                    return live;
                case READY_RECORDS:
                    return readyRecords();
                case THE_MASK:
                    return levelMask;
                default:
                    return isTallied(what) ? at(tally, what) : NONE;
            }
        }

        boolean isTallied(int what) {
            boolean isOfLevel = what >= TAKEN_BY && what < TAKEN_BY + LEVELS
                    || what >= LOST_BY && what < LOST_BY + LEVELS;
            return isOfLevel || what >= GIVEN && what <= MOST_OPEN;
        }

        int readyRecords() {
            int found = 0;
            for (int k = 0; k < live; k++) {
                found += pageAt(placeOf(k)).readyRecords();
            }
            return found;
        }

        int openFigure(int k, int what) {
            if (k < 0 || k >= openCount) {
                return UNKNOWN;
            }
            int place = at(openPlace, k);
            int item = at(openItem, k);
            switch (what) {
                case 4:
                    return at(openPut, k);
                case 5:
                    return place >= head ? place - head : place - head + pageCount;
                case 6:
                    return at(pageAt(place).header, item);
                default:
                    return pageAt(place).itemFigure(item, what);
            }
        }

        int readyFigure(int k, int what) {
            if (k < 0) {
                return UNKNOWN;
            }
            int left = k;
            for (int p = 0; p < live; p++) {
                Page page = pageAt(placeOf(p));
                int many = page.readyRecords();
                if (left < many) {
                    // ready ones are ahead of all others, so the k-th record is the k-th ready one
                    int item = page.itemOfRecord(left);
                    boolean isData = what >= 10 && what - 10 < at(page.dataSize, item);
                    return isData ? page.dataOf(item, what - 10) : page.itemFigure(item, what);
                }
                left -= many;
            }
            return UNKNOWN;
        }

        boolean isWithin(Page page, int item, int from, int to) {
            int itsTime = at(page.time, item);
            return itsTime >= from && itsTime <= to;
        }

        int howManyWithin(int from, int to) {
            int found = 0;
            for (int k = 0; k < live; k++) {
                Page page = pageAt(placeOf(k));
                for (int i = 0; i < page.items; i++) {
                    if (page.isReady(i) && isWithin(page, i, from, to)) {
                        found++;
                    }
                }
            }
            return found;
        }

        int firstWithin(int from, int to) {
            int ahead = 0;
            for (int k = 0; k < live; k++) {
                Page page = pageAt(placeOf(k));
                for (int i = 0; i < page.items; i++) {
                    if (page.isReady(i)) {
                        if (isWithin(page, i, from, to)) {
                            return ahead;
                        }
                        ahead++;
                    }
                }
            }
            return NONE;
        }

        /**
         * Only the first one may need an extension, all others come at the same
         * time as the one ahead. The head is reached when no page is empty any
         * more, and is never empty then: a page without room has something in it.
         */
        int roomFor(int data) {
            if (data < 1 || data > MOST_DATA || innermostLevel() == LEVELS - 1) {
                return NONE;
            }
            int each = 1 + data;
            Page tail = pageAt(tailPlace());
            int left = cellCount - tail.used - tail.sizeFor(now, data);
            int inTail = left < 0 ? 0 : 1 + left / each;
            return inTail + (pageCount - live) * (cellCount / each);
        }
    }

    /** The text that is told, its tokens, one at a time, and what was found wrong in the one read last. */
    private static final class Text {
        final int[] bytes = new int[MOST_BYTES];
        int length;
        int fault = NO_FAULT;
        int faultPlace = NONE;
        /** The token that is looked at, and where what is behind it begins. */
        int kind = THE_END;
        int start;
        int value;
        int next;

        void copyFrom(Text other) {
            copyRow(other.bytes, bytes);
            length = other.length;
            fault = other.fault;
            faultPlace = other.faultPlace;
        }

        int append(long eight) {
            int many = 0;
            while (many < 8 && byteOf(eight, many) != 0) {
                many++;
            }
            if (many > MOST_BYTES - length) {
                return NONE;
            }
            for (int i = 0; i < many; i++) {
                set(bytes, length + i, byteOf(eight, i));
            }
            length += many;
            return length;
        }

        int byteOf(long eight, int i) {
            return (int) (eight >>> (56 - 8 * i) & 255);
        }

        /** 0 behind the end: that is neither letter, digit, sign nor blank. */
        int byteAt(int i) {
            return i < length ? at(bytes, i) : 0;
        }

        void blame(int newFault, int place) {
            fault = newFault;
            faultPlace = place;
        }

        void goToFirst() {
            next = 0;
            goToNext();
        }

        void goToNext() {
            while (next < length && isBlank(byteAt(next))) {
                next++;
            }
            start = next;
            int first = byteAt(start);
            if (start >= length) {
                kind = THE_END;
            } else if (isLetter(first)) {
                passWord();
            } else if (isDigit(first)) {
                passNumber();
            } else {
                next++;
                kind = first == ';' ? THE_SIGN : NO_TOKEN;
            }
        }

        void passWord() {
            while (next < length && isLetter(byteAt(next))) {
                next++;
            }
            kind = A_WORD;
        }

        void passNumber() {
            value = 0;
            while (next < length && isDigit(byteAt(next))) {
                value = 10 * value + byteAt(next) - '0';
                next++;
            }
            kind = next - start <= MOST_DIGITS ? A_NUMBER : NO_TOKEN;
        }

        boolean isBlank(int sign) {
            return sign == 32 || sign == 10;
        }

        boolean isLetter(int sign) {
            return sign >= 'a' && sign <= 'z';
        }

        boolean isDigit(int sign) {
            return sign >= '0' && sign <= '9';
        }

        boolean isThisWord(String word) {
            if (kind != A_WORD || next - start != word.length()) {
                return false;
            }
            for (int i = 0; i < word.length(); i++) {
                if (byteAt(start + i) != word.charAt(i)) {
                    return false;
                }
            }
            return true;
        }
    }

    /** The lines that the text tells: each a verb and up to two numbers. */
    private static final class Lines {
        final int[] verbs = new int[MOST_LINES];
        final int[] firsts = new int[MOST_LINES];
        final int[] seconds = new int[MOST_LINES];
        int many;
        /** Where the first number stands that can not be. */
        int wrongPlace;

        /** Reads all lines, whose verbs are such ones: whether there is no fault. */
        boolean understand(Text text, int firstVerb, int lastVerb) {
            many = 0;
            wrongPlace = NONE;
            text.blame(NO_FAULT, NONE);
            text.goToFirst();
            while (many < MOST_LINES && text.kind != THE_END) {
                if (!passLine(text, firstVerb, lastVerb)) {
                    text.blame(WRONG_TOKEN, text.start);
                    return false;
                }
                many++;
            }
            if (wrongPlace != NONE) {
                text.blame(WRONG_NUMBER, wrongPlace);
                return false;
            }
            return true;
        }

        /** False, if the token can not stand there: it is the current one then. */
        boolean passLine(Text text, int firstVerb, int lastVerb) {
            int verb = verbHere(text, firstVerb, lastVerb);
            if (verb == NONE) {
                return false;
            }
            set(verbs, many, verb);
            text.goToNext();
            for (int i = 0; i < numbersOf(verb); i++) {
                if (text.kind != A_NUMBER) {
                    return false;
                }
                set(i == 0 ? firsts : seconds, many, text.value);
                if (wrongPlace == NONE && !canBe(verb, i, text.value)) {
                    wrongPlace = text.start;
                }
                text.goToNext();
            }
            if (text.kind != THE_SIGN) {
                return false;
            }
            text.goToNext();
            return true;
        }

        int verbHere(Text text, int firstVerb, int lastVerb) {
            for (int verb = firstVerb; verb <= lastVerb; verb++) {
                if (text.isThisWord(wordOf(verb))) {
                    return verb;
                }
            }
            return NONE;
        }

        String wordOf(int verb) {
            switch (verb) {
                case PAGES:
                    return "pages";
                case CELLS:
                    return "cells";
                case OVER:
                    return "over";
                case REFUSE:
                    return "refuse";
                case TICK:
                    return "tick";
                case TAKE:
                    return "take";
                case PUT:
                    return "put";
                case END:
                    return "end";
                case DROP:
                    return "drop";
                case SWAP:
                    return "swap";
                case FORCE:
                    return "force";
                case READ:
                    return "read";
                case MASK:
                    return "mask";
                default:
                    return "resize";
            }
        }

        int numbersOf(int verb) {
            switch (verb) {
                case OVER:
                case REFUSE:
                case SWAP:
                case FORCE:
                    return 0;
                case TAKE:
                case PUT:
                    return 2;
                default:
                    return 1;
            }
        }

        /** Whether a number can be the i-th one of the verb. */
        boolean canBe(int verb, int i, int value) {
            switch (verb) {
                case PAGES:
                case RESIZE:
                    return value >= LEAST_PAGES && value <= MOST_PAGES;
                case CELLS:
                    return value >= LEAST_CELLS && value <= MOST_CELLS;
                case TICK:
                    return value >= 1 && value <= MOST_TICK;
                case READ:
                    return value >= 1 && value <= MOST_READS;
                case MASK:
                    return value >= 0 && value <= ALL_LEVELS;
                case TAKE:
                    return i == 0 ? isLevel(value) : value >= 1 && value <= MOST_DATA;
                case PUT:
                    return i == 0 ? isLevel(value) : value >= 0 && value <= 255;
                default:
                    return isLevel(value);
            }
        }

        boolean isLevel(int value) {
            return value >= 0 && value < LEVELS;
        }

        /** Begins the ring anew, as the lines of a RING tell it. */
        void found(Ring ring) {
            int pages = FIRST_PAGES;
            int cells = FIRST_CELLS;
            boolean over = true;
            for (int i = 0; i < many; i++) {
                int value = at(firsts, i);
                switch (at(verbs, i)) {
                    case PAGES:
                        pages = value;
                        break;
                    case CELLS:
                        cells = value;
                        break;
                    case OVER:
                        over = true;
                        break;
                    default:
                        over = false;
                        break;
                }
            }
            ring.begin(pages, cells, over);
        }

        /** Does the lines of a SCRIPT up to the first that is refused: how many were done. */
        int carryOut(Ring ring) {
            int done = 0;
            while (done < many && doLine(ring, done)) {
                done++;
            }
            return done;
        }

        boolean doLine(Ring ring, int i) {
            int first = at(firsts, i);
            int second = at(seconds, i);
            switch (at(verbs, i)) {
                case TICK:
                    return ring.goOn(first) != NONE;
                case TAKE:
                    return ring.takeRoom(first, second) != REFUSED;
                case PUT:
                    return ring.putData(first, second) != NONE;
                case END:
                    return ring.endInnermost(first) != NONE;
                case DROP:
                    return ring.dropInnermost(first) != NONE;
                case SWAP:
                    return ring.swapHead(false) != NONE;
                case FORCE:
                    return ring.swapHead(true) != NONE;
                case READ:
                    return ring.readSome(first);
                case MASK:
                    return ring.maskBy(first);
                default:
                    return ring.changePages(first) != NONE;
            }
        }
    }

    /** Acts upon a ring as a seed draws them. */
    private static final class Storm {
        int x;

        void blow(Ring ring, int seed, int times) {
            x = seed;
            for (int i = 0; i < times; i++) {
                switch (draw(10)) {
                    case 0:
                        ring.goOn(1 + draw(40));
                        break;
                    case 1:
                    case 2:
                    case 3:
                    case 4:
                        takeOrEnd(ring);
                        break;
                    case 5:
                        ring.putData(ring.innermostLevel(), draw(256));
                        break;
                    case 6:
                    case 7:
                        ring.endInnermost(ring.innermostLevel());
                        break;
                    case 8:
                        ring.dropInnermost(ring.innermostLevel());
                        break;
                    default:
                        ring.swapHead(draw(2) == 1);
                        ring.readNext();
                        ring.readNext();
                        break;
                }
            }
        }

        int draw(int below) {
            x = x * 1103515245 + 12345;
            return below < 1 ? 0 : (x >>> 16) % below;
        }

        void takeOrEnd(Ring ring) {
            int inner = ring.innermostLevel();
            if (inner == LEVELS - 1) {
                ring.endInnermost(inner);
            } else {
                ring.takeRoom(inner + 1, 1 + draw(8));
            }
        }
    }

    /** All that there is, as it is kept. */
    private static final class Image {
        final Ring ring = new Ring();
        final Text text = new Text();
        boolean isKept;
    }
}
