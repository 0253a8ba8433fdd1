/** Each refusal that a promise names: its answer, and that the call changes nothing. */
public final class RefusalTest extends Boundary {
    private static final Scene MIXED = Scene.MIXED;
    private static final Scene BRIM = Scene.BRIM;

    public static void main(String[] args) {
        runAll(RefusalTest.class);
    }

    // Promise 2

    @Says("FULL: no process number is left.")
    static void spawnFull() {
        Scene.FIVE.refuses(ForkedPages::spawn, FULL);
    }

    @Says("NO_ROOM: fewer frames are free than the call needs.")
    static void spawnNoRoom() {
        BRIM.refuses(ForkedPages::spawn, NO_ROOM);
    }

    // Promise 3

    @Says("NO_PROCESS: a process is not 0 .. 4 or does not run.")
    static void forkNoProcess() {
        refusesEveryWrongProcess(MIXED, NO_PROCESS, p -> x -> x.fork(p));
    }

    @Says("no process runs")
    static void forkOfANewObject() {
        Scene.NEW.refuses(x -> x.fork(0), NO_PROCESS);
    }

    @Says("FULL: no process number is left.")
    static void forkFull() {
        for (int process = 0; process < 5; process++) {
            int p = process;
            Scene.FIVE.refuses(x -> x.fork(p), FULL);
        }
    }

    @Says("NO_ROOM: fewer frames are free than the call needs.")
    static void forkNoRoom() {
        for (int process = 0; process < 3; process++) {
            int p = process;
            BRIM.refuses(x -> x.fork(p), NO_ROOM);
        }
        MIXED.refuses(x -> x.fork(0), NO_ROOM);
    }

    // Promise 4

    @Says("Answers how many frames became free. NO_PROCESS.")
    static void exitNoProcess() {
        refusesEveryWrongProcess(MIXED, NO_PROCESS, p -> x -> x.exit(p));
    }

    @Says("Answers how many frames became free. NO_PROCESS.")
    static void exitTwice() {
        Scene ended = new Scene(x -> {
            Scene.spawn(x, 2);
            x.map(0, 0, true);
            x.attach(1, 0, 0, 0);
            x.exit(0);
        });
        ended.refuses(x -> x.exit(0), NO_PROCESS);
        due(ended.open().count(1, 0), 1);
    }

    @Says("no process runs")
    static void exitOnANewObject() {
        Scene.NEW.refuses(x -> x.exit(0), NO_PROCESS);
    }

    // Promise 5

    @Says("NO_PROCESS; BAD; TAKEN; NO_ROOM.")
    static void mapNoProcess() {
        refusesEveryWrongProcess(MIXED, NO_PROCESS, p -> x -> x.map(p, 2, false));
    }

    @Says("BAD: a page is not 0 .. 63")
    static void mapPageTooSmall() {
        refusesEach(MIXED, BAD, PAGES_TOO_SMALL, page -> x -> x.map(0, page, false));
    }

    @Says("BAD: a page is not 0 .. 63")
    static void mapPageTooLarge() {
        refusesEach(MIXED, BAD, PAGES_TOO_LARGE, page -> x -> x.map(0, page, true));
    }

    @Says("TAKEN: a page that must not be mapped is mapped.")
    static void mapTaken() {
        for (int page : new int[] {0, 1, 5, 16, 63}) {
            MIXED.refuses(x -> x.map(0, page, false), TAKEN);
            MIXED.refuses(x -> x.map(0, page, true), TAKEN);
            MIXED.refuses(x -> x.map(1, page, true), TAKEN);
        }
    }

    @Says("NO_ROOM: fewer frames are free than the call needs.")
    static void mapNoRoom() {
        BRIM.refuses(x -> x.map(2, 15, false), NO_ROOM);
        BRIM.refuses(x -> x.map(0, 4, true), NO_ROOM);
        BRIM.refuses(x -> x.map(1, 63, false), NO_ROOM);
    }

    // Promise 6

    @Says("NO_PROCESS (either)")
    static void attachNoProcess() {
        refusesEveryWrongProcess(MIXED, NO_PROCESS, p -> x -> x.attach(p, 2, 0, 5));
    }

    @Says("NO_PROCESS (either)")
    static void attachNoOther() {
        refusesEveryWrongProcess(MIXED, NO_PROCESS, p -> x -> x.attach(0, 2, p, 5));
    }

    @Says("NO_PROCESS (either)")
    static void attachNeitherProcess() {
        refusesEveryWrongProcess(MIXED, NO_PROCESS, p -> x -> x.attach(p, 2, p, 5));
    }

    @Says("BAD (either)")
    static void attachToTooSmall() {
        refusesEach(MIXED, BAD, PAGES_TOO_SMALL, page -> x -> x.attach(2, page, 0, 5));
    }

    @Says("BAD (either)")
    static void attachToTooLarge() {
        refusesEach(MIXED, BAD, PAGES_TOO_LARGE, page -> x -> x.attach(0, page, 0, 5));
    }

    @Says("BAD (either)")
    static void attachFromTooSmall() {
        refusesEach(MIXED, BAD, PAGES_TOO_SMALL, page -> x -> x.attach(0, 2, 0, page));
    }

    @Says("BAD (either)")
    static void attachFromTooLarge() {
        // 69 would be page 5, which is common, if it were bent back.
        refusesEach(MIXED, BAD, PAGES_TOO_LARGE, page -> x -> x.attach(0, 2, 0, page));
    }

    @Says("UNMAPPED (page from)")
    static void attachUnmapped() {
        MIXED.refuses(x -> x.attach(0, 2, 0, 3), UNMAPPED);
        MIXED.refuses(x -> x.attach(0, 2, 2, 5), UNMAPPED);
        MIXED.refuses(x -> x.attach(0, 2, 1, 62), UNMAPPED);
    }

    @Says("UNMAPPED (page from)")
    static void attachOfAnUnmappedPageToItself() {
        MIXED.refuses(x -> x.attach(0, 2, 0, 2), UNMAPPED);
    }

    @Says("TAKEN (page to)")
    static void attachTaken() {
        for (int page : new int[] {0, 1, 16, 63}) {
            MIXED.refuses(x -> x.attach(0, page, 0, 5), TAKEN);
            MIXED.refuses(x -> x.attach(1, page, 0, 5), TAKEN);
        }
    }

    @Says("TAKEN (page to)")
    static void attachOfAPageToItself() {
        MIXED.refuses(x -> x.attach(0, 5, 0, 5), TAKEN);
        MIXED.refuses(x -> x.attach(1, 5, 0, 5), TAKEN);
    }

    @Says("PRIVATE: the mapping is not common.")
    static void attachPrivate() {
        MIXED.refuses(x -> x.attach(0, 2, 0, 0), PRIVATE);
        MIXED.refuses(x -> x.attach(0, 2, 1, 0), PRIVATE);
        MIXED.refuses(x -> x.attach(0, 2, 0, 1), PRIVATE);
        MIXED.refuses(x -> x.attach(0, 2, 0, 63), PRIVATE);
    }

    @Says("NO_ROOM: fewer frames are free than the call needs.")
    static void attachNoRoom() {
        BRIM.refuses(x -> x.attach(0, 4, 0, 1), NO_ROOM);
        BRIM.refuses(x -> x.attach(2, 16, 0, 1), NO_ROOM);
        MIXED.refuses(x -> x.attach(2, 0, 0, 5), NO_ROOM);
    }

    // Promise 7

    @Says("NO_PROCESS; BAD; UNMAPPED.")
    static void unmapNoProcess() {
        refusesEveryWrongProcess(MIXED, NO_PROCESS, p -> x -> x.unmap(p, 0));
    }

    @Says("BAD: a page is not 0 .. 63")
    static void unmapPageTooSmall() {
        refusesEach(MIXED, BAD, PAGES_TOO_SMALL, page -> x -> x.unmap(0, page));
    }

    @Says("BAD: a page is not 0 .. 63")
    static void unmapPageTooLarge() {
        refusesEach(MIXED, BAD, PAGES_TOO_LARGE, page -> x -> x.unmap(0, page));
    }

    @Says("UNMAPPED: a page that must be mapped is not.")
    static void unmapUnmapped() {
        MIXED.refuses(x -> x.unmap(0, 2), UNMAPPED);
        MIXED.refuses(x -> x.unmap(1, 62), UNMAPPED);
        MIXED.refuses(x -> x.unmap(2, 0), UNMAPPED);
    }

    @Says("UNMAPPED: a page that must be mapped is not.")
    static void unmapTwice() {
        Scene unmapped = new Scene(x -> {
            Scene.spawn(x, 1);
            x.map(0, 0, false);
            x.fork(0);
            x.unmap(0, 0);
        });
        unmapped.refuses(x -> x.unmap(0, 0), UNMAPPED);
        due(unmapped.open().count(1, 0), 1);
    }

    // Promise 8

    @Says("NO_PROCESS; BAD; UNMAPPED.")
    static void protectNoProcess() {
        refusesEveryWrongProcess(MIXED, NO_PROCESS, p -> x -> x.protect(p, 0, false));
    }

    @Says("BAD: a page is not 0 .. 63")
    static void protectPageTooSmall() {
        refusesEach(MIXED, BAD, PAGES_TOO_SMALL, page -> x -> x.protect(0, page, false));
        refusesEach(MIXED, BAD, PAGES_TOO_SMALL, page -> x -> x.protect(0, page, true));
    }

    @Says("BAD: a page is not 0 .. 63")
    static void protectPageTooLarge() {
        refusesEach(MIXED, BAD, PAGES_TOO_LARGE, page -> x -> x.protect(0, page, false));
        refusesEach(MIXED, BAD, PAGES_TOO_LARGE, page -> x -> x.protect(0, page, true));
    }

    @Says("UNMAPPED: a page that must be mapped is not.")
    static void protectUnmapped() {
        MIXED.refuses(x -> x.protect(0, 2, false), UNMAPPED);
        MIXED.refuses(x -> x.protect(2, 0, true), UNMAPPED);
    }

    @Says("UNMAPPED: a page that must be mapped is not.")
    static void protectOfAnUnmappedPageDoesNotShowLater() {
        ForkedPages x = MIXED.open();
        due(x.protect(0, 2, false), UNMAPPED);
        due(x.map(0, 2, false), 1);
        due(x.mapping(0, 2), 1);
    }

    // Promise 9

    @Says("NO_PROCESS; BAD; UNMAPPED; READ_ONLY; NO_ROOM")
    static void writeNoProcess() {
        refusesEveryWrongProcess(MIXED, NO_PROCESS, p -> x -> x.write(p, 0, 5));
    }

    @Says("an address not 0 .. 255")
    static void writeAddressTooSmall() {
        refusesEach(MIXED, BAD, ADDRESSES_TOO_SMALL, address -> x -> x.write(0, address, 5));
    }

    @Says("an address not 0 .. 255")
    static void writeAddressTooLarge() {
        refusesEach(MIXED, BAD, ADDRESSES_TOO_LARGE, address -> x -> x.write(0, address, 5));
    }

    @Says("UNMAPPED: a page that must be mapped is not.")
    static void writeUnmapped() {
        for (int address : new int[] {8, 19, 24, 63, 68, 251}) {
            MIXED.refuses(x -> x.write(0, address, 5), UNMAPPED);
        }
        MIXED.refuses(x -> x.write(2, 0, 5), UNMAPPED);
    }

    @Says("READ_ONLY: the mapping is not writable.")
    static void writeReadOnlyPrivate() {
        for (int address = 252; address < 256; address++) {
            int a = address;
            MIXED.refuses(x -> x.write(0, a, 5), READ_ONLY);
            MIXED.refuses(x -> x.write(1, a, 5), READ_ONLY);
        }
    }

    @Says("READ_ONLY: the mapping is not writable.")
    static void writeReadOnlyCommon() {
        MIXED.refuses(x -> x.write(0, 64, 5), READ_ONLY);
        MIXED.refuses(x -> x.write(1, 67, 5), READ_ONLY);
    }

    @Says("READ_ONLY: the mapping is not writable.")
    static void writeReadOnlyThatIsNotMarked() {
        Scene plain = new Scene(x -> {
            x.spawn();
            x.map(0, 7, false);
            Scene.fillWords(x, 0, 7);
            x.protect(0, 7, false);
        });
        plain.refuses(x -> x.write(0, 28, 5), READ_ONLY);
    }

    @Says("NO_ROOM (when a copy is needed and no frame is free)")
    static void writeNoRoom() {
        BRIM.refuses(x -> x.write(0, 0, 5), NO_ROOM);
        BRIM.refuses(x -> x.write(1, 11, 5), NO_ROOM);
    }

    // Promise 10

    @Says("NOTHING when the process does not run")
    static void readNoProcess() {
        refusesEveryWrongProcess(MIXED, NOTHING, p -> x -> x.read(p, 0));
    }

    @Says("NOTHING when the process does not run or there is no such address")
    static void readAddressTooSmall() {
        refusesEach(MIXED, NOTHING, ADDRESSES_TOO_SMALL, address -> x -> x.read(0, address));
    }

    @Says("NOTHING when the process does not run or there is no such address")
    static void readAddressTooLarge() {
        refusesEach(MIXED, NOTHING, ADDRESSES_TOO_LARGE, address -> x -> x.read(0, address));
    }

    @Says("or its page is not mapped")
    static void readUnmapped() {
        for (int address : new int[] {8, 19, 24, 63, 68, 251}) {
            MIXED.refuses(x -> x.read(0, address), NOTHING);
        }
        MIXED.refuses(x -> x.read(2, 0), NOTHING);
    }

    // Promises 12 to 16

    @Says("How many tables a process has. NO_PROCESS.")
    static void tablesNoProcess() {
        refusesEveryWrongProcess(MIXED, NO_PROCESS, p -> x -> x.tables(p));
    }

    @Says("How many pages of a process are mapped. NO_PROCESS.")
    static void pagesNoProcess() {
        refusesEveryWrongProcess(MIXED, NO_PROCESS, p -> x -> x.pages(p));
    }

    @Says("The count of the frame to which a page is mapped. NO_PROCESS; BAD; UNMAPPED.")
    static void countNoProcess() {
        refusesEveryWrongProcess(MIXED, NO_PROCESS, p -> x -> x.count(p, 0));
    }

    @Says("BAD: a page is not 0 .. 63")
    static void countPageTooSmall() {
        refusesEach(MIXED, BAD, PAGES_TOO_SMALL, page -> x -> x.count(0, page));
    }

    @Says("BAD: a page is not 0 .. 63")
    static void countPageTooLarge() {
        refusesEach(MIXED, BAD, PAGES_TOO_LARGE, page -> x -> x.count(0, page));
    }

    @Says("The count of the frame to which a page is mapped. NO_PROCESS; BAD; UNMAPPED.")
    static void countUnmapped() {
        MIXED.refuses(x -> x.count(0, 2), UNMAPPED);
        MIXED.refuses(x -> x.count(2, 0), UNMAPPED);
    }

    @Says("plus 4 if it is marked. NO_PROCESS; BAD; UNMAPPED.")
    static void mappingNoProcess() {
        refusesEveryWrongProcess(MIXED, NO_PROCESS, p -> x -> x.mapping(p, 0));
    }

    @Says("BAD: a page is not 0 .. 63")
    static void mappingPageTooSmall() {
        refusesEach(MIXED, BAD, PAGES_TOO_SMALL, page -> x -> x.mapping(0, page));
    }

    @Says("BAD: a page is not 0 .. 63")
    static void mappingPageTooLarge() {
        refusesEach(MIXED, BAD, PAGES_TOO_LARGE, page -> x -> x.mapping(0, page));
    }

    @Says("plus 4 if it is marked. NO_PROCESS; BAD; UNMAPPED.")
    static void mappingUnmapped() {
        MIXED.refuses(x -> x.mapping(0, 2), UNMAPPED);
        MIXED.refuses(x -> x.mapping(2, 0), UNMAPPED);
    }

    @Says("NO_PROCESS (either); BAD (page); UNMAPPED (page).")
    static void twinNoProcess() {
        refusesEveryWrongProcess(MIXED, NO_PROCESS, p -> x -> x.twin(p, 0, 0, -1));
    }

    @Says("NO_PROCESS (either); BAD (page); UNMAPPED (page).")
    static void twinNoOther() {
        refusesEveryWrongProcess(MIXED, NO_PROCESS, p -> x -> x.twin(0, 0, p, -1));
    }

    @Says("NO_PROCESS (either); BAD (page); UNMAPPED (page).")
    static void twinNeitherProcess() {
        refusesEveryWrongProcess(MIXED, NO_PROCESS, p -> x -> x.twin(p, 0, p, -1));
    }

    @Says("NO_PROCESS (either); BAD (page); UNMAPPED (page).")
    static void twinPageTooSmall() {
        refusesEach(MIXED, BAD, PAGES_TOO_SMALL, page -> x -> x.twin(0, page, 1, -1));
    }

    @Says("NO_PROCESS (either); BAD (page); UNMAPPED (page).")
    static void twinPageTooLarge() {
        refusesEach(MIXED, BAD, PAGES_TOO_LARGE, page -> x -> x.twin(0, page, 1, -1));
    }

    @Says("NO_PROCESS (either); BAD (page); UNMAPPED (page).")
    static void twinUnmapped() {
        MIXED.refuses(x -> x.twin(0, 2, 1, -1), UNMAPPED);
        MIXED.refuses(x -> x.twin(2, 0, 0, -1), UNMAPPED);
        MIXED.refuses(x -> x.twin(0, 2, 0, 63), UNMAPPED);
    }

    @Says("no process runs")
    static void everyCallOnANewObject() {
        Scene none = Scene.NEW;
        none.refuses(x -> x.map(0, 0, false), NO_PROCESS);
        none.refuses(x -> x.attach(0, 0, 0, 0), NO_PROCESS);
        none.refuses(x -> x.unmap(0, 0), NO_PROCESS);
        none.refuses(x -> x.protect(0, 0, true), NO_PROCESS);
        none.refuses(x -> x.write(0, 0, 0), NO_PROCESS);
        none.refuses(x -> x.read(0, 0), NOTHING);
        none.refuses(x -> x.tables(0), NO_PROCESS);
        none.refuses(x -> x.pages(0), NO_PROCESS);
        none.refuses(x -> x.count(0, 0), NO_PROCESS);
        none.refuses(x -> x.mapping(0, 0), NO_PROCESS);
        none.refuses(x -> x.twin(0, 0, 0, 0), NO_PROCESS);
    }
}
