/** One method for each promise of the document: ordinary inputs, the edges, and wrong inputs. */
public final class PromiseTest {
    private static final int NO_PROCESS = ForkedPages.NO_PROCESS;
    private static final int BAD = ForkedPages.BAD;
    private static final int UNMAPPED = ForkedPages.UNMAPPED;
    private static final int TAKEN = ForkedPages.TAKEN;
    private static final int READ_ONLY = ForkedPages.READ_ONLY;
    private static final int PRIVATE = ForkedPages.PRIVATE;
    private static final int FULL = ForkedPages.FULL;
    private static final int NO_ROOM = ForkedPages.NO_ROOM;
    private static final long NOTHING = ForkedPages.NOTHING;
    private static final int LEAST = Integer.MIN_VALUE;
    private static final int GREATEST = Integer.MAX_VALUE;

    public static void main(String[] args) {
        newObject();
        spawn();
        fork();
        forkMarks();
        forkRoom();
        exit();
        map();
        mapRoom();
        attach();
        attachRefusals();
        attachRoom();
        unmap();
        protect();
        write();
        writeFaults();
        writeRoom();
        read();
        free();
        tables();
        pages();
        count();
        mapping();
        twin();
        twinRefusals();
        running();
        faults();
        refusalsChangeNothing();
        Check.finish();
    }

    private static void due(String call, long got, long want) {
        Check.due(call, got, want);
    }

    /** An object on which process 0 runs. */
    private static ForkedPages started() {
        ForkedPages x = new ForkedPages();
        due("started: spawn", x.spawn(), 0);
        return x;
    }

    /** Process 0 with pages 0 .. 14 private, and so many processes without pages that the given number of frames (0 .. 3) is left. */
    private static ForkedPages leaving(int left) {
        ForkedPages x = started();
        for (int page = 0; page < 15; page++) {
            x.map(0, page, false);
        }
        // 15 pages and their 6 tables leave 3 frames, and each further process takes one.
        for (int process = 1; process <= 3 - left; process++) {
            due("leaving: spawn", x.spawn(), process);
        }
        due("leaving: free", x.free(), left);
        return x;
    }

    private static void newObject() {
        ForkedPages x = new ForkedPages();
        due("1 free", x.free(), 24);
        due("1 running", x.running(), 0);
        due("1 faults", x.faults(false), 0);
        due("1 copies", x.faults(true), 0);
        for (int process = 0; process < 5; process++) {
            due("1 tables", x.tables(process), NO_PROCESS);
            due("1 read", x.read(process, 0), NOTHING);
        }
        ForkedPages other = started();
        due("1 another object is not touched", x.free(), 24);
        due("1 the other has its own", other.free(), 23);
    }

    private static void spawn() {
        ForkedPages x = new ForkedPages();
        for (int process = 0; process < 5; process++) {
            due("2 spawn", x.spawn(), process);
            due("2 free", x.free(), 23 - process);
            due("2 pages", x.pages(process), 0);
            due("2 tables", x.tables(process), 1);
        }
        due("2 spawn, no number left", x.spawn(), FULL);
        due("2 free after FULL", x.free(), 19);
        x.exit(3);
        x.exit(1);
        due("2 spawn takes the least", x.spawn(), 1);
        due("2 spawn takes the next", x.spawn(), 3);
        ForkedPages full = leaving(0);
        due("2 spawn without room", full.spawn(), NO_ROOM);
        due("2 running after NO_ROOM", full.running(), 15);
        due("2 a page less", full.unmap(0, 0), 1);
        due("2 spawn with one frame", full.spawn(), 4);
        due("2 FULL stands before NO_ROOM", full.spawn(), FULL);
    }

    private static void fork() {
        ForkedPages x = started();
        x.map(0, 0, false);
        x.map(0, 1, true);
        x.map(0, 63, false);
        x.protect(0, 63, false);
        x.write(0, 3, 7);
        x.write(0, 4, 8);
        int before = x.free();
        due("3 fork", x.fork(0), 1);
        due("3 frames for tables alone", before - x.free(), 5);
        due("3 tables", x.tables(1), 5);
        due("3 pages", x.pages(1), 3);
        due("3 private word", x.read(1, 3), 7);
        due("3 common word", x.read(1, 4), 8);
        due("3 private", x.mapping(1, 0), 5);
        due("3 common", x.mapping(1, 1), 3);
        due("3 private, not writable", x.mapping(1, 63), 4);
        due("3 page that the parent has not", x.count(1, 2), UNMAPPED);
        due("3 twin in the child", x.twin(0, 0, 1, -1), 0);
        due("3 common stays shared", x.write(1, 4, 9), 0);
        due("3 common word of the parent", x.read(0, 4), 9);
        due("3 not running", x.fork(2), NO_PROCESS);
        due("3 below", x.fork(-1), NO_PROCESS);
        due("3 above", x.fork(5), NO_PROCESS);
        due("3 least int", x.fork(LEAST), NO_PROCESS);
        due("3 greatest int", x.fork(GREATEST), NO_PROCESS);
    }

    private static void forkMarks() {
        ForkedPages x = started();
        x.map(0, 7, false);
        due("3 not marked before", x.mapping(0, 7), 1);
        x.fork(0);
        due("3 parent marked", x.mapping(0, 7), 5);
        x.write(0, 28, 1);
        due("3 marked no more", x.mapping(0, 7), 1);
        due("3 the other stays marked", x.mapping(1, 7), 5);
        due("3 fork again", x.fork(0), 2);
        due("3 parent marked again", x.mapping(0, 7), 5);
        due("3 child of the second fork", x.mapping(2, 7), 5);
        due("3 fork of one that is marked", x.fork(1), 3);
        due("3 it stays marked", x.mapping(1, 7), 5);
        due("3 its child is marked", x.mapping(3, 7), 5);
        x.exit(0);
        due("3 the least number that does not run", x.fork(3), 0);
        due("3 count", x.count(0, 7), 3);
    }

    private static void forkRoom() {
        ForkedPages x = started();
        for (int page = 0; page < 64; page += 16) {
            due("3 map", x.map(0, page, false), 3);
        }
        due("3 tables", x.tables(0), 9);
        due("3 free", x.free(), 11);
        due("3 fork with room", x.fork(0), 1);
        due("3 free then", x.free(), 2);
        due("3 fork without room", x.fork(1), NO_ROOM);
        due("3 nothing started", x.running(), 3);
        x.exit(1);
        x.map(0, 1, false);
        x.map(0, 2, false);
        due("3 as many as tables", x.free(), 9);
        due("3 just enough", x.fork(0), 1);
        due("3 all taken", x.free(), 0);
        x.exit(1);
        x.write(0, 0, 1);
        x.map(0, 3, false);
        due("3 one too few", x.fork(0), NO_ROOM);
        due("3 refused: not marked", x.mapping(0, 0), 1);
        due("3 refused: count", x.count(0, 0), 1);
        ForkedPages five = new ForkedPages();
        for (int process = 0; process < 5; process++) {
            five.spawn();
        }
        due("3 FULL", five.fork(2), FULL);
        due("3 NO_PROCESS before FULL", five.fork(5), NO_PROCESS);
        for (int page = 0; page < 13; page++) {
            five.map(0, page, false);
        }
        due("3 FULL before NO_ROOM", five.fork(0), FULL);
    }

    private static void exit() {
        ForkedPages x = started();
        x.map(0, 0, false);
        x.map(0, 20, true);
        x.attach(0, 21, 0, 20);
        due("4 free", x.free(), 17);
        x.fork(0);
        due("4 shared data stays", x.exit(0), 5);
        due("4 runs no more", x.running(), 2);
        due("4 count of the rest", x.count(1, 20), 2);
        due("4 private count", x.count(1, 0), 1);
        due("4 all frames", x.exit(1), 7);
        due("4 free at last", x.free(), 24);
        due("4 twice", x.exit(1), NO_PROCESS);
        due("4 below", x.exit(-1), NO_PROCESS);
        due("4 above", x.exit(5), NO_PROCESS);
        due("4 least int", x.exit(LEAST), NO_PROCESS);
        due("4 number is free again", x.spawn(), 0);
        due("4 no page is left", x.pages(0), 0);
        due("4 one without pages", x.exit(0), 1);
    }

    private static void map() {
        ForkedPages x = started();
        due("5 first page", x.map(0, 0, false), 3);
        due("5 same lowest table", x.map(0, 3, true), 1);
        due("5 next lowest table", x.map(0, 4, false), 2);
        due("5 last of the first 16", x.map(0, 15, false), 2);
        due("5 next 16", x.map(0, 16, false), 3);
        due("5 last page", x.map(0, 63, true), 3);
        due("5 private", x.mapping(0, 0), 1);
        due("5 common", x.mapping(0, 3), 3);
        due("5 count", x.count(0, 0), 1);
        due("5 taken", x.map(0, 0, true), TAKEN);
        due("5 taken stays private", x.mapping(0, 0), 1);
        due("5 page below", x.map(0, -1, false), BAD);
        due("5 page above", x.map(0, 64, false), BAD);
        due("5 page least int", x.map(0, LEAST, false), BAD);
        due("5 page greatest int", x.map(0, GREATEST, false), BAD);
        due("5 process", x.map(1, 64, false), NO_PROCESS);
        due("5 process below", x.map(-1, 0, false), NO_PROCESS);
        due("5 process above", x.map(5, 0, false), NO_PROCESS);
        for (int word = 0; word < 4; word++) {
            x.write(0, word, 100 + word);
        }
        x.unmap(0, 0);
        x.map(0, 0, true);
        for (int word = 0; word < 4; word++) {
            due("5 words of a frame used before", x.read(0, word), 0);
        }
        due("5 kind of a page mapped before", x.mapping(0, 0), 3);
        x.unmap(0, 0);
        x.map(0, 0, false);
        x.fork(0);
        x.exit(1);
        x.unmap(0, 0);
        x.map(0, 0, false);
        due("5 a mark does not stay", x.mapping(0, 0), 1);
    }

    private static void mapRoom() {
        ForkedPages x = leaving(2);
        due("5 needs three", x.map(0, 16, false), NO_ROOM);
        due("5 nothing taken", x.free(), 2);
        due("5 TAKEN before NO_ROOM", x.map(0, 0, false), TAKEN);
        due("5 BAD before NO_ROOM", x.map(0, 64, false), BAD);
        due("5 needs one", x.map(0, 15, false), 1);
        due("5 needs three of one", x.map(1, 0, false), NO_ROOM);
        ForkedPages three = leaving(3);
        due("5 needs three of three", three.map(0, 16, false), 3);
        due("5 needs one of none", three.map(0, 15, false), NO_ROOM);
        due("5 page stays unmapped", three.count(0, 15), UNMAPPED);
    }

    private static void attach() {
        ForkedPages x = started();
        x.spawn();
        x.map(0, 10, true);
        x.write(0, 41, 5);
        due("6 another process", x.attach(1, 33, 0, 10), 2);
        due("6 word", x.read(1, 133), 5);
        due("6 kind", x.mapping(1, 33), 3);
        due("6 same process", x.attach(0, 11, 0, 10), 0);
        due("6 same process, one table", x.attach(0, 12, 0, 11), 1);
        due("6 count", x.count(0, 10), 4);
        due("6 write through", x.write(1, 132, 6), 0);
        due("6 seen", x.read(0, 48), 6);
        x.protect(0, 10, false);
        due("6 not writable", x.attach(1, 34, 0, 10), 0);
        due("6 kind of it", x.mapping(1, 34), 2);
        due("6 the others stay writable", x.mapping(1, 33), 3);
        x.fork(0);
        due("6 common after a fork", x.attach(2, 60, 2, 12), 2);
        due("6 not marked", x.mapping(2, 60), 3);
        x.exit(0);
        due("6 lives on", x.read(1, 132), 6);
    }

    private static void attachRefusals() {
        ForkedPages x = started();
        x.spawn();
        x.map(0, 0, true);
        x.map(0, 1, false);
        due("6 process", x.attach(2, 64, 0, 64), NO_PROCESS);
        due("6 other", x.attach(0, 64, 2, 64), NO_PROCESS);
        due("6 other below", x.attach(0, 2, -1, 0), NO_PROCESS);
        due("6 other above", x.attach(0, 2, 5, 0), NO_PROCESS);
        due("6 process below", x.attach(LEAST, 2, 0, 0), NO_PROCESS);
        due("6 to above", x.attach(1, 64, 0, 5), BAD);
        due("6 to below", x.attach(1, -1, 0, 0), BAD);
        due("6 from above", x.attach(0, 0, 0, 64), BAD);
        due("6 from below", x.attach(1, 0, 0, -1), BAD);
        due("6 from least int", x.attach(1, 0, 0, LEAST), BAD);
        due("6 unmapped", x.attach(1, 0, 0, 2), UNMAPPED);
        due("6 UNMAPPED before TAKEN", x.attach(0, 0, 0, 2), UNMAPPED);
        due("6 taken", x.attach(0, 1, 0, 0), TAKEN);
        due("6 TAKEN before PRIVATE", x.attach(0, 0, 0, 1), TAKEN);
        due("6 to itself", x.attach(0, 0, 0, 0), TAKEN);
        due("6 to itself, unmapped", x.attach(0, 2, 0, 2), UNMAPPED);
        due("6 private", x.attach(1, 0, 0, 1), PRIVATE);
        due("6 count stays", x.count(0, 0), 1);
        due("6 pages stay", x.pages(1), 0);
    }

    private static void attachRoom() {
        ForkedPages x = leaving(1);
        x.unmap(0, 0);
        x.map(0, 0, true);
        due("6 two tables, one free", x.attach(0, 16, 0, 0), NO_ROOM);
        due("6 PRIVATE before NO_ROOM", x.attach(0, 16, 0, 1), PRIVATE);
        due("6 TAKEN before NO_ROOM", x.attach(0, 1, 0, 0), TAKEN);
        x.map(0, 15, false);
        due("6 none free", x.free(), 0);
        x.unmap(0, 1);
        x.unmap(0, 2);
        due("6 two free", x.free(), 2);
        due("6 just enough", x.attach(1, 16, 0, 0), 2);
        due("6 none needed of none", x.attach(1, 17, 0, 0), 0);
        due("6 one needed of none", x.attach(1, 20, 0, 0), NO_ROOM);
        due("6 count", x.count(0, 0), 3);
    }

    private static void unmap() {
        ForkedPages x = started();
        x.map(0, 16, false);
        x.map(0, 17, false);
        x.map(0, 31, true);
        x.attach(0, 0, 0, 31);
        due("7 data alone", x.unmap(0, 17), 1);
        due("7 data and a lowest table", x.unmap(0, 16), 2);
        due("7 tables alone", x.unmap(0, 31), 2);
        due("7 word reached by the other", x.read(0, 0), 0);
        due("7 last page", x.unmap(0, 0), 3);
        due("7 process stays", x.tables(0), 1);
        due("7 free", x.free(), 23);
        due("7 unmapped", x.unmap(0, 0), UNMAPPED);
        due("7 page below", x.unmap(0, -1), BAD);
        due("7 page above", x.unmap(0, 64), BAD);
        due("7 process", x.unmap(1, 64), NO_PROCESS);
        due("7 process below", x.unmap(-1, 0), NO_PROCESS);
        due("7 process above", x.unmap(5, 0), NO_PROCESS);
        x.map(0, 0, false);
        x.map(0, 1, false);
        x.fork(0);
        due("7 shared by a fork", x.unmap(1, 0), 0);
        due("7 count then", x.count(0, 0), 1);
        due("7 mark stays", x.mapping(0, 0), 5);
    }

    private static void protect() {
        ForkedPages x = started();
        x.map(0, 2, false);
        due("8 already writable", x.protect(0, 2, true), 0);
        due("8 not writable", x.protect(0, 2, false), 1);
        due("8 kind", x.mapping(0, 2), 0);
        due("8 again", x.protect(0, 2, false), 0);
        due("8 write refused", x.write(0, 8, 1), READ_ONLY);
        x.fork(0);
        due("8 writable, marked", x.protect(0, 2, true), 1);
        due("8 mark stays", x.mapping(0, 2), 5);
        due("8 the child's stays", x.mapping(1, 2), 4);
        due("8 marked, not writable", x.protect(0, 2, false), 1);
        due("8 mark stays", x.mapping(0, 2), 4);
        x.map(0, 3, true);
        due("8 common", x.protect(0, 3, false), 1);
        due("8 common kind", x.mapping(0, 3), 2);
        due("8 unmapped", x.protect(0, 4, false), UNMAPPED);
        due("8 page below", x.protect(0, -1, false), BAD);
        due("8 page above", x.protect(0, 64, true), BAD);
        due("8 process", x.protect(2, 64, true), NO_PROCESS);
        due("8 process below", x.protect(-1, 0, true), NO_PROCESS);
        due("8 process above", x.protect(5, 0, true), NO_PROCESS);
    }

    private static void write() {
        ForkedPages x = started();
        x.map(0, 0, false);
        x.map(0, 63, false);
        int[] words = {LEAST, -1, 1, GREATEST};
        for (int word = 0; word < 4; word++) {
            due("9 write", x.write(0, word, words[word]), 0);
            due("9 write at the end", x.write(0, 252 + word, -words[word]), 0);
        }
        for (int word = 0; word < 4; word++) {
            due("9 word", x.read(0, word), words[word]);
            due("9 word at the end", x.read(0, 252 + word), -words[word]);
        }
        due("9 unmapped", x.write(0, 4, 1), UNMAPPED);
        due("9 unmapped below the last page", x.write(0, 251, 1), UNMAPPED);
        for (int address = -5; address < 0; address++) {
            due("9 address below", x.write(0, address, 1), BAD);
        }
        for (int address = 256; address < 261; address++) {
            due("9 address above", x.write(0, address, 1), BAD);
        }
        due("9 least int", x.write(0, LEAST, 1), BAD);
        due("9 greatest int", x.write(0, GREATEST, 1), BAD);
        due("9 process", x.write(1, 256, 1), NO_PROCESS);
        due("9 process below", x.write(-1, 0, 1), NO_PROCESS);
        due("9 process above", x.write(5, 0, 1), NO_PROCESS);
        due("9 nothing changed", x.read(0, 0), LEAST);
        x.protect(0, 0, false);
        due("9 not writable", x.write(0, 0, 1), READ_ONLY);
        due("9 not written", x.read(0, 0), LEAST);
    }

    private static void writeFaults() {
        ForkedPages x = started();
        x.map(0, 9, false);
        for (int word = 0; word < 4; word++) {
            x.write(0, 36 + word, 10 + word);
        }
        x.fork(0);
        x.fork(0);
        int before = x.free();
        due("9 copy", x.write(1, 37, 99), 2);
        due("9 one frame", before - x.free(), 1);
        due("9 kind", x.mapping(1, 9), 1);
        due("9 own frame", x.count(1, 9), 1);
        due("9 count of the rest", x.count(0, 9), 2);
        long[] copied = {10, 99, 12, 13};
        for (int word = 0; word < 4; word++) {
            due("9 the copy", x.read(1, 36 + word), copied[word]);
            due("9 the parent's", x.read(0, 36 + word), 10 + word);
            due("9 the other child's", x.read(2, 36 + word), 10 + word);
        }
        due("9 no fault then", x.write(1, 36, 98), 0);
        due("9 second copy", x.write(0, 36, 97), 2);
        before = x.free();
        due("9 the last has it alone", x.write(2, 36, 96), 1);
        due("9 no frame taken", x.free(), before);
        due("9 marked no more", x.mapping(2, 9), 1);
        due("9 then no fault", x.write(2, 36, 95), 0);
        due("9 parent", x.read(0, 36), 97);
        due("9 child", x.read(1, 36), 98);
        due("9 other child", x.read(2, 36), 95);
        x.fork(2);
        x.exit(2);
        due("9 parent is gone", x.write(3, 36, 94), 1);
    }

    private static void writeRoom() {
        ForkedPages x = started();
        for (int page = 0; page < 13; page++) {
            x.map(0, page, false);
        }
        due("9 free", x.free(), 5);
        x.map(0, 13, false);
        x.unmap(0, 12);
        x.unmap(0, 13);
        x.fork(0);
        due("9 free after the fork", x.free(), 2);
        due("9 first copy", x.write(0, 0, 1), 2);
        due("9 second copy", x.write(0, 4, 1), 2);
        due("9 no frame for a copy", x.write(0, 8, 1), NO_ROOM);
        due("9 refused: mark stays", x.mapping(0, 2), 5);
        due("9 refused: word stays", x.read(0, 8), 0);
        due("9 refused: count stays", x.count(0, 2), 2);
        due("9 refused: no fault", x.faults(false), 2);
        due("9 refused: no copy", x.faults(true), 2);
        due("9 no copy needed", x.write(1, 0, 1), 1);
        due("9 no fault", x.write(0, 0, 2), 0);
        x.protect(0, 2, false);
        due("9 READ_ONLY before NO_ROOM", x.write(0, 8, 1), READ_ONLY);
        x.protect(0, 2, true);
        x.unmap(1, 0);
        due("9 a frame is free again", x.write(0, 8, 1), 2);
    }

    private static void read() {
        ForkedPages x = started();
        x.map(0, 0, false);
        x.map(0, 63, true);
        x.write(0, 0, LEAST);
        x.write(0, 255, -1);
        due("10 least int", x.read(0, 0), LEAST);
        due("10 minus one", x.read(0, 255), -1);
        due("10 zero", x.read(0, 1), 0);
        x.protect(0, 0, false);
        due("10 not writable", x.read(0, 0), LEAST);
        x.fork(0);
        due("10 marked", x.read(1, 0), LEAST);
        due("10 reading marks nothing off", x.mapping(1, 0), 4);
        due("10 unmapped", x.read(0, 4), NOTHING);
        for (int address = -5; address < 0; address++) {
            due("10 address below", x.read(0, address), NOTHING);
        }
        due("10 address above", x.read(0, 256), NOTHING);
        due("10 least address", x.read(0, LEAST), NOTHING);
        due("10 greatest address", x.read(0, GREATEST), NOTHING);
        due("10 not running", x.read(2, 0), NOTHING);
        due("10 process below", x.read(-1, 0), NOTHING);
        due("10 process above", x.read(5, 0), NOTHING);
        x.unmap(1, 0);
        due("10 unmapped again", x.read(1, 0), NOTHING);
        x.exit(1);
        due("10 ended", x.read(1, 255), NOTHING);
    }

    private static void free() {
        ForkedPages x = new ForkedPages();
        due("11 new", x.free(), 24);
        x.spawn();
        due("11 a process", x.free(), 23);
        x.map(0, 30, true);
        due("11 a page", x.free(), 20);
        x.attach(0, 31, 0, 30);
        due("11 attached", x.free(), 20);
        x.fork(0);
        due("11 forked", x.free(), 17);
        x.write(1, 120, 1);
        due("11 common written", x.free(), 17);
        x.unmap(0, 30);
        x.unmap(0, 31);
        due("11 unmapped", x.free(), 19);
        x.exit(1);
        due("11 ended", x.free(), 23);
        due("11 none left", leaving(0).free(), 0);
    }

    private static void tables() {
        ForkedPages x = started();
        due("12 no pages", x.tables(0), 1);
        int[] pages = {0, 3, 4, 15, 16, 32, 47, 48, 63};
        int[] due = {3, 3, 4, 5, 7, 9, 10, 12, 13};
        x.map(0, 0, true);
        for (int i = 0; i < pages.length; i++) {
            if (i > 0) {
                x.attach(0, pages[i], 0, 0);
            }
            due("12 tables with page " + pages[i], x.tables(0), due[i]);
        }
        x.attach(0, 1, 0, 0);
        x.unmap(0, 0);
        due("12 a neighbour keeps the tables", x.tables(0), 13);
        x.unmap(0, 1);
        due("12 page 3 keeps the tables", x.tables(0), 13);
        x.unmap(0, 3);
        due("12 a lowest table goes", x.tables(0), 12);
        x.unmap(0, 16);
        due("12 a middle table goes too", x.tables(0), 10);
        due("12 not running", x.tables(1), NO_PROCESS);
        due("12 below", x.tables(-1), NO_PROCESS);
        due("12 above", x.tables(5), NO_PROCESS);
    }

    private static void pages() {
        ForkedPages x = started();
        due("13 none", x.pages(0), 0);
        x.map(0, 0, true);
        due("13 one", x.pages(0), 1);
        for (int page = 1; page < 64; page++) {
            // Only one common frame, because 64 data frames would not fit.
            x.attach(0, page, 0, 0);
        }
        due("13 all", x.pages(0), 64);
        due("13 tables of all", x.tables(0), 21);
        due("13 count of all", x.count(0, 63), 64);
        due("13 free", x.free(), 2);
        x.unmap(0, 63);
        due("13 one less", x.pages(0), 63);
        due("13 not running", x.pages(1), NO_PROCESS);
        due("13 below", x.pages(-1), NO_PROCESS);
        due("13 above", x.pages(5), NO_PROCESS);
        due("13 ended", x.exit(0), 22);
        due("13 ended has none", x.pages(0), NO_PROCESS);
    }

    private static void count() {
        ForkedPages x = started();
        x.map(0, 0, false);
        x.map(0, 1, true);
        due("14 one", x.count(0, 0), 1);
        x.attach(0, 2, 0, 1);
        due("14 two in one process", x.count(0, 1), 2);
        x.fork(0);
        due("14 private", x.count(1, 0), 2);
        due("14 common", x.count(1, 2), 4);
        x.write(1, 0, 0);
        due("14 after a copy, here", x.count(1, 0), 1);
        due("14 after a copy, there", x.count(0, 0), 1);
        x.exit(0);
        due("14 after an exit", x.count(1, 1), 2);
        due("14 not running", x.count(0, 64), NO_PROCESS);
        due("14 process below", x.count(-1, 0), NO_PROCESS);
        due("14 process above", x.count(5, 0), NO_PROCESS);
        due("14 page below", x.count(1, -1), BAD);
        due("14 page above", x.count(1, 64), BAD);
        due("14 unmapped", x.count(1, 3), UNMAPPED);
    }

    private static void mapping() {
        ForkedPages x = started();
        x.map(0, 0, false);
        x.map(0, 1, false);
        x.map(0, 2, true);
        x.map(0, 3, true);
        x.protect(0, 1, false);
        x.protect(0, 3, false);
        due("15 writable", x.mapping(0, 0), 1);
        due("15 nothing", x.mapping(0, 1), 0);
        due("15 common, writable", x.mapping(0, 2), 3);
        due("15 common", x.mapping(0, 3), 2);
        x.fork(0);
        for (int process = 0; process < 2; process++) {
            due("15 marked, writable", x.mapping(process, 0), 5);
            due("15 marked", x.mapping(process, 1), 4);
            due("15 common stays", x.mapping(process, 2), 3);
            due("15 common stays, not writable", x.mapping(process, 3), 2);
        }
        x.exit(1);
        due("15 an exit marks nothing off", x.mapping(0, 0), 5);
        due("15 not running", x.mapping(1, 64), NO_PROCESS);
        due("15 process below", x.mapping(-1, 0), NO_PROCESS);
        due("15 process above", x.mapping(5, 0), NO_PROCESS);
        due("15 page below", x.mapping(0, -1), BAD);
        due("15 page above", x.mapping(0, 64), BAD);
        due("15 unmapped", x.mapping(0, 4), UNMAPPED);
    }

    private static void twin() {
        ForkedPages x = started();
        x.map(0, 0, true);
        x.map(0, 5, false);
        x.attach(0, 10, 0, 0);
        x.attach(0, 63, 0, 0);
        due("16 itself", x.twin(0, 0, 0, -1), 0);
        due("16 greater than after", x.twin(0, 0, 0, 0), 10);
        due("16 just before", x.twin(0, 0, 0, 9), 10);
        due("16 from the middle", x.twin(0, 10, 0, 10), 63);
        due("16 the least, not the next", x.twin(0, 10, 0, -1), 0);
        due("16 up to the last", x.twin(0, 10, 0, 62), 63);
        due("16 none after the last", x.twin(0, 10, 0, 63), 64);
        due("16 after is 64", x.twin(0, 10, 0, 64), 64);
        due("16 greatest int", x.twin(0, 10, 0, GREATEST), 64);
        due("16 least int", x.twin(0, 10, 0, LEAST), 0);
        due("16 private, itself", x.twin(0, 5, 0, -1), 5);
        due("16 private, none", x.twin(0, 5, 0, 5), 64);
        x.fork(0);
        due("16 in the child", x.twin(0, 5, 1, -1), 5);
        due("16 in the parent", x.twin(1, 10, 0, 0), 10);
        x.write(1, 20, 1);
        due("16 after a copy", x.twin(0, 5, 1, -1), 64);
        x.unmap(1, 0);
        due("16 after an unmap", x.twin(0, 0, 1, -1), 10);
        x.spawn();
        due("16 one without pages", x.twin(0, 0, 2, -1), 64);
    }

    private static void twinRefusals() {
        ForkedPages x = started();
        x.map(0, 0, true);
        due("16 process", x.twin(1, 64, 0, -1), NO_PROCESS);
        due("16 other", x.twin(0, 64, 1, -1), NO_PROCESS);
        due("16 process below", x.twin(-1, 0, 0, -1), NO_PROCESS);
        due("16 other below", x.twin(0, 0, -1, -1), NO_PROCESS);
        due("16 process above", x.twin(5, 0, 0, -1), NO_PROCESS);
        due("16 other above", x.twin(0, 0, 5, -1), NO_PROCESS);
        due("16 NO_PROCESS before UNMAPPED", x.twin(0, 1, 1, -1), NO_PROCESS);
        due("16 page below", x.twin(0, -1, 0, -1), BAD);
        due("16 page above", x.twin(0, 64, 0, -1), BAD);
        due("16 unmapped", x.twin(0, 1, 0, -1), UNMAPPED);
        due("16 any after", x.twin(0, 0, 0, -1000), 0);
    }

    private static void running() {
        ForkedPages x = new ForkedPages();
        due("17 none", x.running(), 0);
        for (int process = 0; process < 5; process++) {
            x.spawn();
            due("17 sum", x.running(), (1 << (process + 1)) - 1);
        }
        x.exit(1);
        due("17 without 1", x.running(), 29);
        x.exit(4);
        due("17 without 4", x.running(), 13);
        x.fork(0);
        due("17 forked", x.running(), 15);
    }

    private static void faults() {
        ForkedPages x = started();
        x.map(0, 0, false);
        x.map(0, 1, true);
        x.write(0, 0, 1);
        x.fork(0);
        x.write(1, 4, 1);
        due("18 no fault yet", x.faults(false), 0);
        x.write(1, 0, 1);
        due("18 a copy", x.faults(true), 1);
        due("18 a copy counts in all", x.faults(false), 1);
        x.write(1, 0, 2);
        due("18 no fault", x.faults(false), 1);
        x.write(0, 0, 2);
        due("18 a fault without a copy", x.faults(true), 1);
        due("18 all", x.faults(false), 2);
        x.fork(0);
        x.protect(0, 0, false);
        x.write(0, 0, 3);
        due("18 refused", x.faults(false), 2);
        x.exit(0);
        x.exit(1);
        x.exit(2);
        due("18 they stay when all end", x.faults(false), 2);
        due("18 copies stay", x.faults(true), 1);
    }

    private static void refusalsChangeNothing() {
        ForkedPages x = started();
        x.map(0, 0, true);
        x.map(0, 1, false);
        x.fork(0);
        int free = x.free();
        x.map(0, 64, true);
        x.map(0, 0, false);
        x.map(4, 0, false);
        x.attach(0, 2, 0, 1);
        x.attach(0, 1, 0, 0);
        x.unmap(0, 2);
        x.protect(0, 2, false);
        x.write(0, 8, 1);
        x.write(0, -1, 1);
        x.exit(3);
        x.fork(3);
        due("refused: free", x.free(), free);
        due("refused: running", x.running(), 3);
        due("refused: pages", x.pages(0), 2);
        due("refused: common", x.mapping(0, 0), 3);
        due("refused: private", x.mapping(0, 1), 5);
        due("refused: word", x.read(0, 0), 0);
        due("refused: count", x.count(0, 0), 2);
        due("refused: faults", x.faults(false), 0);
    }
}
