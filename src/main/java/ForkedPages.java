/**
 * A memory of 24 frames that five processes reach by tables of three levels.
 * A fork shares frames, the first write of either side copies, common pages
 * are shared for good, and what nobody uses any more is free again.
 */
public final class ForkedPages {
    public static final int NO_PROCESS = -1;
    public static final int BAD = -2;
    public static final int UNMAPPED = -3;
    public static final int TAKEN = -4;
    public static final int READ_ONLY = -5;
    public static final int PRIVATE = -6;
    public static final int FULL = -7;
    public static final int NO_ROOM = -8;
    public static final long NOTHING = 1099511627776L;

    private static final int FRAMES = 24;
    private static final int WORDS = 4;
    private static final int PROCESSES = 5;
    private static final int PAGES = 64;
    private static final int MIDDLE_SPAN = 16;
    private static final int LOWEST_SPAN = 4;

    /** What a check answers when nothing stands against the call: every refusal is below it. */
    private static final int ALLOWED = 0;

    /** The parts of a mapping's kind, with the weights that the face answers. */
    private static final int WRITABLE = 1;
    private static final int COMMON = 2;
    private static final int MARKED = 4;

    private final Space[] spaces;
    private final Store store;
    private int allFaults;
    private int copyFaults;

    public ForkedPages() {
        spaces = new Space[PROCESSES];
        for (int process = 0; process < PROCESSES; process++) {
            spaces[process] = new Space();
        }
        store = new Store();
    }

    public int spawn() {
        int process = leastIdle();
        if (process < 0) {
            return FULL;
        }
        if (freeFrames() < Space.tablesFor(0L)) {
            return NO_ROOM;
        }
        spaces[process].runs = true;
        return process;
    }

    public int fork(int process) {
        if (!isRunning(process)) {
            return NO_PROCESS;
        }
        int number = leastIdle();
        if (number < 0) {
            return FULL;
        }
        Space parent = spaces[process];
        if (freeFrames() < parent.tableCount()) {
            return NO_ROOM;
        }
        Space child = spaces[number];
        child.runs = true;
        for (int page = 0; page < PAGES; page++) {
            if (parent.has(page)) {
                sharePage(parent, child, page);
            }
        }
        return number;
    }

    public int exit(int process) {
        if (!isRunning(process)) {
            return NO_PROCESS;
        }
        int before = freeFrames();
        Space space = spaces[process];
        for (int page = 0; page < PAGES; page++) {
            if (space.has(page)) {
                endMapping(space, page);
            }
        }
        space.runs = false;
        return freeFrames() - before;
    }

    public int map(int process, int page, boolean common) {
        if (!isRunning(process)) {
            return NO_PROCESS;
        }
        if (!isPage(page)) {
            return BAD;
        }
        Space space = spaces[process];
        if (space.has(page)) {
            return TAKEN;
        }
        int needed = 1 + space.tablesToAdd(page);
        if (freeFrames() < needed) {
            return NO_ROOM;
        }
        int frame = store.unusedFrame();
        store.blank(frame);
        startMapping(space, page, frame, common ? WRITABLE + COMMON : WRITABLE);
        return needed;
    }

    public int attach(int process, int to, int other, int from) {
        if (!isRunning(process) || !isRunning(other)) {
            return NO_PROCESS;
        }
        if (!isPage(to) || !isPage(from)) {
            return BAD;
        }
        Space space = spaces[process];
        Space source = spaces[other];
        if (!source.has(from)) {
            return UNMAPPED;
        }
        if (space.has(to)) {
            return TAKEN;
        }
        if (!source.is(COMMON, from)) {
            return PRIVATE;
        }
        int needed = space.tablesToAdd(to);
        if (freeFrames() < needed) {
            return NO_ROOM;
        }
        int kind = source.is(WRITABLE, from) ? WRITABLE + COMMON : COMMON;
        startMapping(space, to, source.frames[from], kind);
        return needed;
    }

    public int unmap(int process, int page) {
        int refusal = refusalOfMapped(process, page);
        if (refusal != ALLOWED) {
            return refusal;
        }
        int before = freeFrames();
        endMapping(spaces[process], page);
        return freeFrames() - before;
    }

    public int protect(int process, int page, boolean writable) {
        int refusal = refusalOfMapped(process, page);
        if (refusal != ALLOWED) {
            return refusal;
        }
        Space space = spaces[process];
        if (space.is(WRITABLE, page) == writable) {
            return 0;
        }
        space.turn(WRITABLE, page);
        return 1;
    }

    public int write(int process, int address, int word) {
        int refusal = refusalOfAddress(process, address);
        if (refusal != ALLOWED) {
            return refusal;
        }
        Space space = spaces[process];
        int page = address / WORDS;
        if (!space.is(WRITABLE, page)) {
            return READ_ONLY;
        }
        int answer = 0;
        if (space.is(MARKED, page)) {
            answer = resolveFault(space, page);
            if (answer < 0) {
                return answer;
            }
        }
        store.words[space.frames[page] * WORDS + address % WORDS] = word;
        return answer;
    }

    public long read(int process, int address) {
        if (refusalOfAddress(process, address) != ALLOWED) {
            return NOTHING;
        }
        int frame = spaces[process].frames[address / WORDS];
        return store.words[frame * WORDS + address % WORDS];
    }

    public int free() {
        return freeFrames();
    }

    public int tables(int process) {
        return isRunning(process) ? spaces[process].tableCount() : NO_PROCESS;
    }

    public int pages(int process) {
        return isRunning(process) ? Long.bitCount(spaces[process].mapped) : NO_PROCESS;
    }

    public int count(int process, int page) {
        int refusal = refusalOfMapped(process, page);
        if (refusal != ALLOWED) {
            return refusal;
        }
        return store.counts[spaces[process].frames[page]];
    }

    public int mapping(int process, int page) {
        int refusal = refusalOfMapped(process, page);
        if (refusal != ALLOWED) {
            return refusal;
        }
        return spaces[process].kinds[page];
    }

    public int twin(int process, int page, int other, int after) {
        if (!isRunning(other)) {
            return NO_PROCESS;
        }
        int refusal = refusalOfMapped(process, page);
        if (refusal != ALLOWED) {
            return refusal;
        }
        int frame = spaces[process].frames[page];
        Space space = spaces[other];
        // Every page is compared with after, because after + 1 would wrap round at the greatest int.
        for (int candidate = 0; candidate < PAGES; candidate++) {
            if (candidate > after && space.has(candidate) && space.frames[candidate] == frame) {
                return candidate;
            }
        }
        return PAGES;
    }

    public int running() {
        int sum = 0;
        for (int process = 0; process < PROCESSES; process++) {
            if (spaces[process].runs) {
                sum += 1 << process;
            }
        }
        return sum;
    }

    public int faults(boolean copies) {
        return copies ? copyFaults : allFaults;
    }

    private boolean isRunning(int process) {
        return process >= 0 && process < PROCESSES && spaces[process].runs;
    }

    private static boolean isPage(int page) {
        return page >= 0 && page < PAGES;
    }

    private int refusalOfMapped(int process, int page) {
        if (!isRunning(process)) {
            return NO_PROCESS;
        }
        if (!isPage(page)) {
            return BAD;
        }
        return spaces[process].has(page) ? ALLOWED : UNMAPPED;
    }

    private int refusalOfAddress(int process, int address) {
        // Division rounds -3 .. -1 up to page 0, so those addresses become a page that is none.
        return refusalOfMapped(process, address < 0 ? -1 : address / WORDS);
    }

    /** The least process number that does not run, or -1. */
    private int leastIdle() {
        for (int process = 0; process < PROCESSES; process++) {
            if (!spaces[process].runs) {
                return process;
            }
        }
        return -1;
    }

    /** Table frames are only counted, never numbered: it does not show which frame is taken. */
    private int freeFrames() {
        int unused = FRAMES - store.usedFrames();
        for (int process = 0; process < PROCESSES; process++) {
            if (spaces[process].runs) {
                unused -= spaces[process].tableCount();
            }
        }
        return unused;
    }

    private void startMapping(Space space, int page, int frame, int kind) {
        space.set(page, frame, kind);
        store.counts[frame]++;
    }

    private void endMapping(Space space, int page) {
        store.counts[space.frames[page]]--;
        space.clear(page);
    }

    private void sharePage(Space parent, Space child, int page) {
        if (!parent.is(COMMON, page) && !parent.is(MARKED, page)) {
            parent.turn(MARKED, page);
        }
        startMapping(child, page, parent.frames[page], parent.kinds[page]);
    }

    /** Makes a marked page ready to be written: 1 without a copy, 2 with one, or NO_ROOM. */
    private int resolveFault(Space space, int page) {
        int shared = space.frames[page];
        boolean copies = store.counts[shared] > 1;
        if (copies && freeFrames() < 1) {
            return NO_ROOM;
        }
        allFaults++;
        space.turn(MARKED, page);
        if (!copies) {
            return 1;
        }
        copyFaults++;
        int own = store.unusedFrame();
        store.copy(shared, own);
        int kind = space.kinds[page];
        endMapping(space, page);
        startMapping(space, page, own, kind);
        return 2;
    }

    /** The mappings of one process. */
    private static final class Space {
        private boolean runs;
        /** Bit p is set when page p is mapped; only then do frames[p] and kinds[p] mean something. */
        private long mapped;
        private final int[] frames = new int[PAGES];
        private final int[] kinds = new int[PAGES];

        private boolean has(int page) {
            return (mapped >>> page & 1L) != 0L;
        }

        private boolean is(int part, int page) {
            return (kinds[page] & part) != 0;
        }

        private void turn(int part, int page) {
            kinds[page] ^= part;
        }

        private void set(int page, int frame, int kind) {
            mapped |= 1L << page;
            frames[page] = frame;
            kinds[page] = kind;
        }

        private void clear(int page) {
            mapped &= ~(1L << page);
        }

        private int tableCount() {
            return tablesFor(mapped);
        }

        private int tablesToAdd(int page) {
            return tablesFor(mapped | 1L << page) - tablesFor(mapped);
        }

        private static int tablesFor(long pageSet) {
            return 1 + spansUsed(pageSet, PAGES / MIDDLE_SPAN, MIDDLE_SPAN)
                + spansUsed(pageSet, PAGES / LOWEST_SPAN, LOWEST_SPAN);
        }

        private static int spansUsed(long pageSet, int spans, int pagesInSpan) {
            long wholeSpan = (1L << pagesInSpan) - 1L;
            int used = 0;
            for (int span = 0; span < spans; span++) {
                if ((pageSet >>> span * pagesInSpan & wholeSpan) != 0L) {
                    used++;
                }
            }
            return used;
        }
    }

    /** The data frames: their words, and how many mappings lead to each. */
    private static final class Store {
        private final int[] words = new int[FRAMES * WORDS];
        private final int[] counts = new int[FRAMES];

        private int usedFrames() {
            int used = 0;
            for (int frame = 0; frame < FRAMES; frame++) {
                if (counts[frame] > 0) {
                    used++;
                }
            }
            return used;
        }

        /** Asked only when a frame is free; which of them it answers does not show. */
        private int unusedFrame() {
            int unused = 0;
            for (int frame = 0; frame < FRAMES; frame++) {
                if (counts[frame] == 0) {
                    unused = frame;
                }
            }
            return unused;
        }

        private void blank(int frame) {
            for (int word = 0; word < WORDS; word++) {
                words[frame * WORDS + word] = 0;
            }
        }

        private void copy(int from, int to) {
            for (int word = 0; word < WORDS; word++) {
                words[to * WORDS + word] = words[from * WORDS + word];
            }
        }
    }
}
