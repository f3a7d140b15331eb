import java.util.ArrayList;
import java.util.List;
import java.util.regex.Matcher;
import java.util.regex.Pattern;

/**
 * The document once more, told in another way: pages are lists of what was
 * laid down, their cells are written out anew for each question, and what
 * would be is tried on a copy.
 */
final class Model {
    static final class Entry {
        int number;
        int level;
        int time;
        int delta;
        List<Integer> data = new ArrayList<>();
        int put;
        boolean isGap;
        boolean isReady;

        Entry copy() {
            Entry e = new Entry();
            e.number = number;
            e.level = level;
            e.time = time;
            e.delta = delta;
            e.data = new ArrayList<>(data);
            e.put = put;
            e.isGap = isGap;
            e.isReady = isReady;
            return e;
        }

        int size() {
            return (delta > 15 ? 4 : 1) + data.size();
        }

        List<Integer> written() {
            List<Integer> cells = new ArrayList<>();
            if (delta > 15) {
                cells.add(240 + delta % 16);
                cells.add(delta / 16 % 256);
                cells.add(delta / 4096);
            }
            int low = delta > 15 ? 0 : delta;
            cells.add(isGap ? 224 + low : 16 * data.size() + low);
            if (isGap) {
                cells.add(data.size());
                for (int i = 1; i < data.size(); i++) {
                    cells.add(0);
                }
            } else {
                cells.addAll(data);
            }
            return cells;
        }
    }

    static final class Page {
        List<Entry> entries = new ArrayList<>();

        int used() {
            int used = 0;
            for (Entry e : entries) {
                used += e.size();
            }
            return used;
        }

        int ready() {
            int ready = 0;
            for (Entry e : entries) {
                if (!e.isReady) {
                    break;
                }
                ready += e.size();
            }
            return ready;
        }

        int records() {
            int records = 0;
            for (Entry e : entries) {
                records += e.isGap ? 0 : 1;
            }
            return records;
        }

        List<Integer> cells(int many) {
            List<Integer> cells = new ArrayList<>();
            for (Entry e : entries) {
                cells.addAll(e.written());
            }
            while (cells.size() < many) {
                cells.add(0);
            }
            return cells;
        }

        int headerOf(Entry wanted) {
            int at = 0;
            for (Entry e : entries) {
                if (e == wanted) {
                    return at + (e.delta > 15 ? 3 : 0);
                }
                at += e.size();
            }
            throw new IllegalStateException("no such entry here");
        }

        Page copy() {
            Page p = new Page();
            for (Entry e : entries) {
                p.entries.add(e.copy());
            }
            return p;
        }
    }

    /** Places: null is an empty page that is not live. */
    List<Page> live = new ArrayList<>();
    int headPlace;
    int pages;
    int cells;
    boolean over;
    int now;
    int mask;
    Page reader;
    int readerNext;
    List<Entry> open = new ArrayList<>();
    Entry lastRead;
    int lastMissing;
    int given, overwritten, dropped, skipped, wasRead, extensions, swaps;
    int longest, longestNumber, greatest, mostOpen;
    int[] taken = new int[4];
    int[] lost = new int[4];
    String text = "";
    int fault = 0;
    int faultPlace = -1;
    Model[] kept = new Model[3];

    Model() {
        begin(3, 16, true);
    }

    void begin(int pages, int cells, boolean over) {
        this.pages = pages;
        this.cells = cells;
        this.over = over;
        live = new ArrayList<>();
        live.add(new Page());
        headPlace = 0;
        now = 0;
        mask = 15;
        reader = new Page();
        readerNext = 0;
        open = new ArrayList<>();
        lastRead = null;
        lastMissing = 0;
        given = overwritten = dropped = skipped = wasRead = extensions = swaps = 0;
        longest = greatest = mostOpen = 0;
        longestNumber = -1;
        taken = new int[4];
        lost = new int[4];
    }

    Model copy() {
        Model m = new Model();
        m.takeOver(this);
        return m;
    }

    void takeOver(Model o) {
        begin(o.pages, o.cells, o.over);
        live.clear();
        for (Page p : o.live) {
            live.add(p.copy());
        }
        headPlace = o.headPlace;
        now = o.now;
        mask = o.mask;
        reader = o.reader.copy();
        readerNext = o.readerNext;
        for (Entry e : o.open) {
            for (int p = 0; p < o.live.size(); p++) {
                int i = o.live.get(p).entries.indexOf(e);
                if (i >= 0) {
                    open.add(live.get(p).entries.get(i));
                }
            }
        }
        lastRead = o.lastRead == null ? null : o.lastRead.copy();
        lastMissing = o.lastMissing;
        given = o.given;
        overwritten = o.overwritten;
        dropped = o.dropped;
        skipped = o.skipped;
        wasRead = o.wasRead;
        extensions = o.extensions;
        swaps = o.swaps;
        longest = o.longest;
        longestNumber = o.longestNumber;
        greatest = o.greatest;
        mostOpen = o.mostOpen;
        taken = o.taken.clone();
        lost = o.lost.clone();
        text = o.text;
        fault = o.fault;
        faultPlace = o.faultPlace;
    }

    // ---- texts

    int tell(long eight) {
        StringBuilder more = new StringBuilder();
        for (int i = 7; i >= 0; i--) {
            char c = (char) (eight >>> (8 * i) & 255);
            if (c == 0) {
                break;
            }
            more.append(c);
        }
        if (text.length() + more.length() > 400) {
            return -1;
        }
        text += more;
        return text.length();
    }

    /** word: least and most of each number. */
    static final Object[][] RING_WORDS = {
        {"pages", 2, 6}, {"cells", 12, 32}, {"over"}, {"refuse"}};
    static final Object[][] SCRIPT_WORDS = {
        {"tick", 1, 5000}, {"take", 0, 3, 1, 8}, {"put", 0, 3, 0, 255}, {"end", 0, 3}, {"drop", 0, 3},
        {"swap"}, {"force"}, {"read", 1, 99}, {"mask", 0, 15}, {"resize", 2, 6}};

    static final Pattern TOKEN = Pattern.compile("[ \\n]*([a-z]+|[0-9]+|;|[^ \\n]|$)", Pattern.DOTALL);

    List<String[]> understood(Object[][] words) {
        List<String[]> lines = new ArrayList<>();
        String told = text;
        text = "";
        fault = 0;
        faultPlace = -1;
        int secondPlace = -1;
        List<String> tokens = new ArrayList<>();
        List<Integer> places = new ArrayList<>();
        Matcher m = TOKEN.matcher(told);
        int from = 0;
        while (true) {
            if (!m.find(from)) {
                throw new IllegalStateException("no token at " + from);
            }
            tokens.add(m.group(1));
            places.add(m.start(1));
            if (m.group(1).isEmpty()) {
                break;
            }
            from = m.end();
        }
        int t = 0;
        while (!tokens.get(t).isEmpty()) {
            Object[] form = null;
            for (Object[] word : words) {
                if (word[0].equals(tokens.get(t))) {
                    form = word;
                }
            }
            if (form == null) {
                return faulty(1, places.get(t));
            }
            String[] line = new String[1 + (form.length - 1) / 2];
            line[0] = tokens.get(t);
            t++;
            for (int i = 1; i < line.length; i++) {
                if (!tokens.get(t).matches("[0-9]{1,6}")) {
                    return faulty(1, places.get(t));
                }
                line[i] = tokens.get(t);
                int value = Integer.parseInt(line[i]);
                if ((value < (Integer) form[2 * i - 1] || value > (Integer) form[2 * i]) && secondPlace < 0) {
                    secondPlace = places.get(t);
                }
                t++;
            }
            if (!tokens.get(t).equals(";")) {
                return faulty(1, places.get(t));
            }
            t++;
            lines.add(line);
        }
        return secondPlace >= 0 ? faulty(2, secondPlace) : lines;
    }

    List<String[]> faulty(int kind, int place) {
        fault = kind;
        faultPlace = place;
        return null;
    }

    int ring() {
        List<String[]> lines = understood(RING_WORDS);
        if (lines == null) {
            return -1;
        }
        int p = 3;
        int c = 16;
        boolean o = true;
        for (String[] line : lines) {
            switch (line[0]) {
                case "pages" -> p = Integer.parseInt(line[1]);
                case "cells" -> c = Integer.parseInt(line[1]);
                case "over" -> o = true;
                default -> o = false;
            }
        }
        begin(p, c, o);
        return p * c;
    }

    int script() {
        List<String[]> lines = understood(SCRIPT_WORDS);
        if (lines == null) {
            return -1;
        }
        int done = 0;
        for (String[] line : lines) {
            int a = line.length > 1 ? Integer.parseInt(line[1]) : 0;
            int b = line.length > 2 ? Integer.parseInt(line[2]) : 0;
            boolean refused = switch (line[0]) {
                case "tick" -> tick(a) == -1;
                case "take" -> take(a, b) == -2;
                case "put" -> put(a, b) == -1;
                case "end" -> end(a) == -1;
                case "drop" -> drop(a) == -1;
                case "swap" -> swap(false) == -1;
                case "force" -> swap(true) == -1;
                case "read" -> {
                    int i = 0;
                    while (i < a && read() != -1) {
                        i++;
                    }
                    yield i == 0;
                }
                case "mask" -> !mask(a);
                default -> resize(a) == -1;
            };
            if (refused) {
                break;
            }
            done++;
        }
        return done;
    }

    int fault(boolean place) {
        return place ? faultPlace : fault;
    }

    // ---- acts

    int tick(int n) {
        if (n < 1 || n > 5000 || now + n > 999999) {
            return -1;
        }
        now += n;
        return now;
    }

    Page tail() {
        return live.get(live.size() - 1);
    }

    Entry innermost() {
        return open.isEmpty() ? null : open.get(open.size() - 1);
    }

    boolean holdsOpen(Page page) {
        for (Entry e : open) {
            if (page.entries.contains(e)) {
                return true;
            }
        }
        return false;
    }

    int take(int level, int n) {
        if (level < 0 || level > 3 || n < 1 || n > 8) {
            return -1;
        }
        if (!open.isEmpty() && innermost().level >= level) {
            return -2;
        }
        given++;
        Entry e = new Entry();
        e.number = given;
        e.level = level;
        e.time = now;
        for (int i = 0; i < n; i++) {
            e.data.add(0);
        }
        List<Entry> ahead = tail().entries;
        e.delta = ahead.isEmpty() ? 0 : now - ahead.get(ahead.size() - 1).time;
        if (tail().used() + e.size() > cells) {
            e.delta = 0;
            if (live.size() == pages) {
                if (!over || holdsOpen(live.get(0))) {
                    lost[level]++;
                    return -3;
                }
                overwritten += live.remove(0).records();
                headPlace = (headPlace + 1) % pages;
            }
            live.add(new Page());
        }
        tail().entries.add(e);
        open.add(e);
        taken[level]++;
        extensions += e.delta > 15 ? 1 : 0;
        greatest = Math.max(greatest, e.delta);
        mostOpen = Math.max(mostOpen, open.size());
        return given;
    }

    int put(int level, int number) {
        Entry e = innermost();
        if (e == null || e.level != level || number < 0 || number > 255 || e.put == e.data.size()) {
            return -1;
        }
        e.data.set(e.put, number);
        e.put++;
        return e.data.size() - e.put;
    }

    int end(int level) {
        Entry e = innermost();
        if (e == null || e.level != level) {
            return -1;
        }
        if (longestNumber == -1 || now - e.time > longest) {
            longest = now - e.time;
            longestNumber = e.number;
        }
        close();
        return open.size();
    }

    void close() {
        open.remove(open.size() - 1);
        if (open.isEmpty()) {
            for (Page p : live) {
                for (Entry e : p.entries) {
                    e.isReady = true;
                }
            }
        }
    }

    int drop(int level) {
        Entry e = innermost();
        if (e == null || e.level != level) {
            return -1;
        }
        dropped++;
        List<Entry> there = tail().entries;
        boolean goes = !there.isEmpty() && there.get(there.size() - 1) == e;
        if (goes) {
            there.remove(there.size() - 1);
        } else {
            e.isGap = true;
        }
        close();
        return goes ? 0 : 1;
    }

    int swap(boolean force) {
        Page head = live.get(0);
        if (holdsOpen(head)) {
            return -1;
        }
        boolean isTail = live.size() == 1;
        if (isTail && (!force || head.used() == 0 || !open.isEmpty())) {
            return -1;
        }
        skipped += left();
        swaps++;
        reader = head;
        readerNext = 0;
        live.remove(0);
        if (isTail) {
            live.add(new Page());
        } else {
            headPlace = (headPlace + 1) % pages;
        }
        return reader.records();
    }

    int left() {
        int left = 0;
        for (int i = readerNext; i < reader.entries.size(); i++) {
            left += reader.entries.get(i).isGap ? 0 : 1;
        }
        return left;
    }

    int read() {
        for (; readerNext < reader.entries.size(); readerNext++) {
            Entry e = reader.entries.get(readerNext);
            if (e.isGap) {
                continue;
            }
            if ((mask & 1 << e.level) == 0) {
                skipped++;
                continue;
            }
            readerNext++;
            wasRead++;
            lastMissing = e.number - (lastRead == null ? 0 : lastRead.number) - 1;
            lastRead = e;
            return e.number;
        }
        return -1;
    }

    boolean mode(boolean o) {
        if (o == over) {
            return false;
        }
        over = o;
        return true;
    }

    boolean mask(int levels) {
        if (levels < 0 || levels > 15 || levels == mask) {
            return false;
        }
        mask = levels;
        return true;
    }

    int resize(int n) {
        if (n < 2 || n > 6 || n == pages || !open.isEmpty()) {
            return -1;
        }
        int gone = 0;
        while (live.size() > n) {
            gone += live.remove(0).records();
        }
        overwritten += gone;
        headPlace = 0;
        pages = n;
        return gone;
    }

    long drawn;

    int draw(int below) {
        drawn = (drawn * 1103515245L + 12345L) & 0xFFFFFFFFL;
        return (int) ((drawn >> 16) % below);
    }

    int storm(int seed, int n) {
        if (n < 1 || n > 60) {
            return -1;
        }
        int ahead = allLost();
        drawn = seed & 0xFFFFFFFFL;
        for (int i = 0; i < n; i++) {
            int act = draw(10);
            int inner = open.isEmpty() ? -1 : innermost().level;
            if (act == 0) {
                tick(draw(40) + 1);
            } else if (act <= 4) {
                if (inner == 3) {
                    end(3);
                } else {
                    take(inner + 1, draw(8) + 1);
                }
            } else if (act == 5) {
                put(inner, draw(256));
            } else if (act <= 7) {
                end(inner);
            } else if (act == 8) {
                drop(inner);
            } else {
                swap(draw(2) == 1);
                read();
                read();
            }
        }
        return allLost() - ahead;
    }

    int allLost() {
        return lost[0] + lost[1] + lost[2] + lost[3];
    }

    // ---- what there is

    List<Entry> readyOnes() {
        List<Entry> found = new ArrayList<>();
        for (Page p : live) {
            for (Entry e : p.entries) {
                if (e.isReady && !e.isGap) {
                    found.add(e);
                }
            }
        }
        return found;
    }

    int count(int what) {
        int[] told = {pages, cells, over ? 1 : 0, now, open.size(), live.size(), given, allLost(), overwritten,
            dropped, skipped, wasRead, readyOnes().size(), extensions, swaps, text.length(), longest,
            longestNumber, greatest, mostOpen, taken[0], taken[1], taken[2], taken[3]};
        if (what >= 0 && what < told.length) {
            return told[what];
        }
        if (what >= 30 && what <= 33) {
            return lost[what - 30];
        }
        return what == 40 ? mask : -1;
    }

    Page pageOf(int k) {
        return k == -1 ? reader : k >= 0 && k < live.size() ? live.get(k) : null;
    }

    int page(int k, int what) {
        Page p = pageOf(k);
        if (p == null || what < 0 || what > 5) {
            return -2;
        }
        switch (what) {
            case 0:
                return p.entries.isEmpty() ? -1 : p.entries.get(0).time;
            case 1:
                return p.used();
            case 2:
                return p.ready();
            case 3:
                return p.records();
            case 4:
                return p.entries.size() - p.records();
            default:
                return k == -1 ? -1 : (headPlace + k) % pages;
        }
    }

    int cell(int k, int i) {
        Page p = pageOf(k);
        return p == null || i < 0 || i >= cells ? -1 : p.cells(cells).get(i);
    }

    int open(int k, int what) {
        if (k < 0 || k >= open.size() || what < 0 || what > 6) {
            return -2;
        }
        Entry e = open.get(k);
        if (what < 4) {
            return told(e, what);
        }
        if (what == 4) {
            return e.put;
        }
        for (int p = 0; p < live.size(); p++) {
            if (live.get(p).entries.contains(e)) {
                return what == 5 ? p : live.get(p).headerOf(e);
            }
        }
        throw new IllegalStateException("an open record is nowhere");
    }

    int told(Entry e, int what) {
        int[] told = {e.number, e.level, e.time, e.data.size()};
        if (what >= 0 && what < 4) {
            return told[what];
        }
        return what >= 10 && what < 10 + e.data.size() ? e.data.get(what - 10) : -2;
    }

    int record(int k, int what) {
        List<Entry> ready = readyOnes();
        return k < 0 || k >= ready.size() ? -2 : told(ready.get(k), what);
    }

    int latest(int what) {
        if (what == 5) {
            return left();
        }
        if (lastRead == null) {
            return -2;
        }
        return what == 4 ? lastMissing : told(lastRead, what);
    }

    int parsed(int k, int i, int what) {
        Page p = pageOf(k);
        if (p == null) {
            return -2;
        }
        List<int[]> rows = new ArrayList<>();
        List<Integer> c = p.cells(cells);
        int time = p.entries.isEmpty() ? 0 : p.entries.get(0).time;
        int at = 0;
        while (at < p.used()) {
            int first = c.get(at);
            if (first / 16 == 15) {
                int delta = first - 240 + c.get(at + 1) * 16 + c.get(at + 2) * 4096;
                rows.add(new int[] {2, at, 3, delta, 0});
                time += delta;
                at += 3;
            } else {
                boolean gap = first / 16 == 14;
                int n = gap ? c.get(at + 1) : first / 16;
                time += first % 16;
                rows.add(new int[] {gap ? 1 : 0, at, 1 + n, time, n});
                at += 1 + n;
            }
        }
        if (i == -1) {
            return what == 0 ? rows.size() : -2;
        }
        return i < 0 || i >= rows.size() || what < 0 || what > 4 ? -2 : rows.get(i)[what];
    }

    int between(int from, int to, boolean first) {
        int found = 0;
        int at = -1;
        List<Entry> ready = readyOnes();
        for (int i = 0; i < ready.size(); i++) {
            if (ready.get(i).time >= from && ready.get(i).time <= to) {
                found++;
                at = at == -1 ? i : at;
            }
        }
        return first ? at : found;
    }

    int sum(int k, int from, int many) {
        Page p = pageOf(k);
        if (p == null || from < 0 || many < 0 || (long) from + many > cells) {
            return -1;
        }
        int sum = 0;
        for (int c : p.cells(cells).subList(from, from + many)) {
            sum += c;
        }
        return sum;
    }

    // ---- what would be

    int would(int level, int n) {
        Model tried = copy();
        int liveAhead = tried.live.size();
        int head = tried.headPlace;
        int answer = tried.take(level, n);
        if (answer < 0) {
            return answer;
        }
        return tried.headPlace != head ? 2 : tried.live.size() > liveAhead ? 1 : 0;
    }

    int room(int n) {
        Model tried = copy();
        if (n < 1 || n > 8 || !open.isEmpty() && innermost().level == 3) {
            return -1;
        }
        int many = 0;
        while (true) {
            boolean headHolds = tried.live.get(0).used() > 0;
            int head = tried.headPlace;
            if (tried.take(3, n) < 0 || tried.headPlace != head && headHolds) {
                return many;
            }
            tried.end(3);
            many++;
        }
    }

    int after(int seed, int n, int what) {
        Model tried = copy();
        return tried.storm(seed, n) == -1 ? -1 : tried.count(what);
    }

    int fewest(int seed, int n) {
        for (int p = 2; p <= 6; p++) {
            Model tried = new Model();
            tried.begin(p, cells, over);
            if (tried.storm(seed, n) == 0 && tried.overwritten == 0) {
                return p;
            }
        }
        return -1;
    }

    // ---- kept

    boolean image(int k) {
        if (k < 0 || k > 2) {
            return false;
        }
        kept[k] = copy();
        return true;
    }

    boolean again(int k) {
        if (k < 0 || k > 2 || kept[k] == null) {
            return false;
        }
        takeOver(kept[k]);
        return true;
    }
}
