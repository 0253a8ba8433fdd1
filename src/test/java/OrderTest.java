/** "Of several that fit, the one that stands first here is answered": each two refusals that can fit one call. */
public final class OrderTest extends Boundary {
    private static final Scene BRIM = Scene.BRIM;

    /** The nearest wrong numbers; in MIXED and BRIM the processes 3 and 4 do not run. */
    private static final int[] NO_PROCESSES = {-1, 3, 4, 5};
    private static final int[] NO_PAGES = {-1, 64};
    private static final int[] NO_ADDRESSES = {-1, 256};

    public static void main(String[] args) {
        runAll(OrderTest.class);
    }

    // Promise 2

    @Says("Of several that fit, the one that stands first here is answered")
    static void spawnFullBeforeNoRoom() {
        Scene.FIVE_BRIM.refuses(ForkedPages::spawn, FULL);
    }

    // Promise 3

    @Says("Of several that fit, the one that stands first here is answered")
    static void forkNoProcessBeforeFull() {
        Scene.FIVE.refuses(x -> x.fork(-1), NO_PROCESS);
        Scene.FIVE.refuses(x -> x.fork(5), NO_PROCESS);
    }

    @Says("Of several that fit, the one that stands first here is answered")
    static void forkNoProcessBeforeNoRoom() {
        refusesEach(BRIM, NO_PROCESS, NO_PROCESSES, p -> x -> x.fork(p));
    }

    @Says("Of several that fit, the one that stands first here is answered")
    static void forkFullBeforeNoRoom() {
        for (int process = 0; process < 5; process++) {
            int p = process;
            Scene.FIVE_BRIM.refuses(x -> x.fork(p), FULL);
        }
    }

    @Says("Of several that fit, the one that stands first here is answered")
    static void forkNoProcessBeforeFullAndNoRoom() {
        Scene.FIVE_BRIM.refuses(x -> x.fork(5), NO_PROCESS);
        Scene.FIVE_BRIM.refuses(x -> x.fork(-1), NO_PROCESS);
    }

    // Promise 5

    @Says("Of several that fit, the one that stands first here is answered")
    static void mapNoProcessBeforeBad() {
        for (int page : NO_PAGES) {
            refusesEach(Scene.MIXED, NO_PROCESS, NO_PROCESSES, p -> x -> x.map(p, page, false));
        }
    }

    @Says("Of several that fit, the one that stands first here is answered")
    static void mapNoProcessBeforeNoRoom() {
        refusesEach(BRIM, NO_PROCESS, NO_PROCESSES, p -> x -> x.map(p, 0, false));
    }

    @Says("Of several that fit, the one that stands first here is answered")
    static void mapBadBeforeNoRoom() {
        refusesEach(BRIM, BAD, NO_PAGES, page -> x -> x.map(0, page, false));
    }

    @Says("Of several that fit, the one that stands first here is answered")
    static void mapTakenBeforeNoRoom() {
        BRIM.refuses(x -> x.map(0, 0, false), TAKEN);
        BRIM.refuses(x -> x.map(2, 12, true), TAKEN);
    }

    // Promise 6

    @Says("Of several that fit, the one that stands first here is answered")
    static void attachNoProcessBeforeBad() {
        for (int page : NO_PAGES) {
            refusesEach(Scene.MIXED, NO_PROCESS, NO_PROCESSES, p -> x -> x.attach(p, page, 0, 5));
            refusesEach(Scene.MIXED, NO_PROCESS, NO_PROCESSES, p -> x -> x.attach(p, 2, 0, page));
            refusesEach(Scene.MIXED, NO_PROCESS, NO_PROCESSES, p -> x -> x.attach(0, page, p, 5));
            refusesEach(Scene.MIXED, NO_PROCESS, NO_PROCESSES, p -> x -> x.attach(0, 2, p, page));
        }
    }

    @Says("Of several that fit, the one that stands first here is answered")
    static void attachNoProcessBeforeUnmapped() {
        refusesEach(BRIM, NO_PROCESS, NO_PROCESSES, p -> x -> x.attach(p, 2, 0, 9));
    }

    @Says("Of several that fit, the one that stands first here is answered")
    static void attachNoProcessBeforeTaken() {
        refusesEach(BRIM, NO_PROCESS, NO_PROCESSES, p -> x -> x.attach(0, 0, p, 1));
    }

    @Says("Of several that fit, the one that stands first here is answered")
    static void attachNoProcessBeforePrivate() {
        refusesEach(BRIM, NO_PROCESS, NO_PROCESSES, p -> x -> x.attach(p, 2, 0, 0));
    }

    @Says("Of several that fit, the one that stands first here is answered")
    static void attachNoProcessBeforeNoRoom() {
        refusesEach(BRIM, NO_PROCESS, NO_PROCESSES, p -> x -> x.attach(p, 0, 0, 1));
        refusesEach(BRIM, NO_PROCESS, NO_PROCESSES, p -> x -> x.attach(0, 16, p, 1));
    }

    @Says("Of several that fit, the one that stands first here is answered")
    static void attachBadBeforeUnmapped() {
        refusesEach(Scene.MIXED, BAD, NO_PAGES, page -> x -> x.attach(0, page, 0, 2));
    }

    @Says("Of several that fit, the one that stands first here is answered")
    static void attachBadBeforeTaken() {
        refusesEach(Scene.MIXED, BAD, NO_PAGES, page -> x -> x.attach(0, 0, 0, page));
    }

    @Says("Of several that fit, the one that stands first here is answered")
    static void attachBadBeforePrivate() {
        refusesEach(Scene.MIXED, BAD, NO_PAGES, page -> x -> x.attach(0, page, 0, 0));
    }

    @Says("Of several that fit, the one that stands first here is answered")
    static void attachBadBeforeNoRoom() {
        refusesEach(BRIM, BAD, NO_PAGES, page -> x -> x.attach(0, page, 0, 1));
        refusesEach(BRIM, BAD, NO_PAGES, page -> x -> x.attach(0, 16, 0, page));
    }

    @Says("Of several that fit, the one that stands first here is answered")
    static void attachUnmappedBeforeTaken() {
        Scene.MIXED.refuses(x -> x.attach(0, 0, 0, 2), UNMAPPED);
        Scene.MIXED.refuses(x -> x.attach(0, 5, 2, 5), UNMAPPED);
    }

    @Says("Of several that fit, the one that stands first here is answered")
    static void attachUnmappedBeforeNoRoom() {
        BRIM.refuses(x -> x.attach(0, 16, 0, 9), UNMAPPED);
    }

    @Says("Of several that fit, the one that stands first here is answered")
    static void attachTakenBeforePrivate() {
        Scene.MIXED.refuses(x -> x.attach(0, 5, 0, 0), TAKEN);
        Scene.MIXED.refuses(x -> x.attach(1, 0, 0, 0), TAKEN);
    }

    @Says("Of several that fit, the one that stands first here is answered")
    static void attachTakenBeforeNoRoom() {
        BRIM.refuses(x -> x.attach(0, 0, 0, 1), TAKEN);
    }

    @Says("Of several that fit, the one that stands first here is answered")
    static void attachPrivateBeforeNoRoom() {
        BRIM.refuses(x -> x.attach(0, 4, 0, 0), PRIVATE);
        BRIM.refuses(x -> x.attach(0, 16, 1, 3), PRIVATE);
    }

    @Says("NO_PROCESS (either); BAD (either); UNMAPPED (page from); TAKEN (page to); PRIVATE (page from); NO_ROOM.")
    static void attachEveryCombination() {
        // In BRIM: pages 0 .. 3 are mapped and 1 alone is common; page 9 is not mapped and needs a table.
        for (int process : new int[] {0, 4, 5}) {
            for (int other : new int[] {1, 3, -1}) {
                for (int to : new int[] {9, 2, 64}) {
                    for (int from : new int[] {1, 0, 10, -1}) {
                        due(BRIM.open().attach(process, to, other, from), attachRefusal(process, to, other, from));
                    }
                }
            }
        }
    }

    private static int attachRefusal(int process, int to, int other, int from) {
        if (process != 0 || other != 1) {
            return NO_PROCESS;
        }
        if (to == 64 || from == -1) {
            return BAD;
        }
        if (from == 10) {
            return UNMAPPED;
        }
        if (to == 2) {
            return TAKEN;
        }
        return from == 0 ? PRIVATE : NO_ROOM;
    }

    // Promises 7 and 8

    @Says("Of several that fit, the one that stands first here is answered")
    static void unmapNoProcessBeforeBad() {
        for (int page : NO_PAGES) {
            refusesEach(Scene.MIXED, NO_PROCESS, NO_PROCESSES, p -> x -> x.unmap(p, page));
        }
    }

    @Says("Of several that fit, the one that stands first here is answered")
    static void unmapNoProcessBeforeUnmapped() {
        refusesEach(Scene.MIXED, NO_PROCESS, NO_PROCESSES, p -> x -> x.unmap(p, 2));
    }

    @Says("Of several that fit, the one that stands first here is answered")
    static void protectNoProcessBeforeBad() {
        for (int page : NO_PAGES) {
            refusesEach(Scene.MIXED, NO_PROCESS, NO_PROCESSES, p -> x -> x.protect(p, page, true));
        }
    }

    @Says("Of several that fit, the one that stands first here is answered")
    static void protectNoProcessBeforeUnmapped() {
        refusesEach(Scene.MIXED, NO_PROCESS, NO_PROCESSES, p -> x -> x.protect(p, 2, false));
    }

    // Promise 9

    @Says("Of several that fit, the one that stands first here is answered")
    static void writeNoProcessBeforeBad() {
        for (int address : NO_ADDRESSES) {
            refusesEach(Scene.MIXED, NO_PROCESS, NO_PROCESSES, p -> x -> x.write(p, address, 1));
        }
    }

    @Says("Of several that fit, the one that stands first here is answered")
    static void writeNoProcessBeforeUnmapped() {
        refusesEach(BRIM, NO_PROCESS, NO_PROCESSES, p -> x -> x.write(p, 80, 1));
    }

    @Says("Of several that fit, the one that stands first here is answered")
    static void writeReadOnlyBeforeNoRoom() {
        // Page 3 is marked, shared and not writable, and no frame is free.
        BRIM.refuses(x -> x.write(0, 12, 1), READ_ONLY);
        BRIM.refuses(x -> x.write(1, 15, 1), READ_ONLY);
    }

    @Says("Of several that fit, the one that stands first here is answered")
    static void writeWithoutAFrameFree() {
        BRIM.refuses(x -> x.write(0, 0, 1), NO_ROOM);
        BRIM.refuses(x -> x.write(0, 16, 1), UNMAPPED);
        BRIM.refuses(x -> x.write(0, 256, 1), BAD);
        BRIM.refuses(x -> x.write(0, -1, 1), BAD);
        BRIM.refuses(x -> x.write(3, 0, 1), NO_PROCESS);
    }

    // Promises 14 to 16

    @Says("Of several that fit, the one that stands first here is answered")
    static void countNoProcessBeforeBad() {
        for (int page : NO_PAGES) {
            refusesEach(Scene.MIXED, NO_PROCESS, NO_PROCESSES, p -> x -> x.count(p, page));
        }
    }

    @Says("Of several that fit, the one that stands first here is answered")
    static void mappingNoProcessBeforeBad() {
        for (int page : NO_PAGES) {
            refusesEach(Scene.MIXED, NO_PROCESS, NO_PROCESSES, p -> x -> x.mapping(p, page));
        }
    }

    @Says("Of several that fit, the one that stands first here is answered")
    static void countAndMappingNoProcessBeforeUnmapped() {
        refusesEach(Scene.MIXED, NO_PROCESS, NO_PROCESSES, p -> x -> x.count(p, 2));
        refusesEach(Scene.MIXED, NO_PROCESS, NO_PROCESSES, p -> x -> x.mapping(p, 2));
    }

    @Says("Of several that fit, the one that stands first here is answered")
    static void twinNoProcessBeforeBad() {
        for (int page : NO_PAGES) {
            refusesEach(Scene.MIXED, NO_PROCESS, NO_PROCESSES, p -> x -> x.twin(p, page, 0, -1));
            refusesEach(Scene.MIXED, NO_PROCESS, NO_PROCESSES, p -> x -> x.twin(0, page, p, -1));
        }
    }

    @Says("Of several that fit, the one that stands first here is answered")
    static void twinNoProcessBeforeUnmapped() {
        refusesEach(Scene.MIXED, NO_PROCESS, NO_PROCESSES, p -> x -> x.twin(p, 2, 0, -1));
        refusesEach(Scene.MIXED, NO_PROCESS, NO_PROCESSES, p -> x -> x.twin(0, 2, p, -1));
    }
}
