/** The bounds of the section "Terms": frames, processes, pages, addresses, words, and how long an object is used. */
public final class BoundsTest extends Boundary {
    public static void main(String[] args) {
        runAll(BoundsTest.class);
    }

    @Says("FRAMES: 24")
    static void twentyFourFramesAreUsedBeforeOneIsMissing() {
        ForkedPages x = new ForkedPages();
        x.spawn();
        int taken = 1;
        for (int page = 0; page < 16; page++) {
            taken += x.map(0, page, false);
        }
        due(taken, 22);
        due(x.free(), 2);
        due(x.spawn(), 1);
        due(x.spawn(), 2);
        due(x.free(), 0);
        due(x.spawn(), NO_ROOM);
    }

    @Says("FRAMES: 24")
    static void oneProcessCanUseAllFrames() {
        ForkedPages x = new ForkedPages();
        x.spawn();
        for (int page = 0; page < 15; page++) {
            x.map(0, page, false);
        }
        due(x.map(0, 63, false), 3);
        due(x.free(), 0);
        for (int page = 0; page < 15; page++) {
            due(x.count(0, page), 1);
            due(x.twin(0, page, 0, -1), page);
        }
        due(x.map(0, 15, false), NO_ROOM);
        due(x.exit(0), 24);
    }

    @Says("used as a data frame of four words (ints)")
    static void wordsOfAPageAreFourOfTheirOwn() {
        ForkedPages x = new ForkedPages();
        x.spawn();
        for (int page = 4; page < 7; page++) {
            x.map(0, page, false);
        }
        Scene.fillWords(x, 0, 5);
        for (int word = 0; word < 4; word++) {
            due(x.read(0, 16 + word), 0);
            due(x.read(0, 20 + word), 501 + word);
            due(x.read(0, 24 + word), 0);
        }
    }

    @Says("used as a data frame of four words (ints)")
    static void everyWordHoldsAnyInt() {
        ForkedPages x = new ForkedPages();
        x.spawn();
        x.map(0, 63, true);
        for (int word : new int[] {LEAST, LEAST + 1, -65536, -256, -1, 0, 1, 255, 65535, GREATEST - 1, GREATEST}) {
            for (int address = 252; address < 256; address++) {
                due(x.write(0, address, word), 0);
                due(x.read(0, address), word);
            }
        }
    }

    @Says("PROCESSES: 0 .. 4; each is running or not.")
    static void fiveProcessesRunAtOnce() {
        ForkedPages x = Scene.FIVE.open();
        for (int process = 0; process < 5; process++) {
            due(x.tables(process), 1);
            due(x.map(process, 0, false), 3);
            due(x.write(process, 0, process + 1), 0);
        }
        for (int process = 0; process < 5; process++) {
            due(x.read(process, 0), process + 1);
            due(x.count(process, 0), 1);
        }
    }

    @Says("PROCESSES: 0 .. 4; each is running or not.")
    static void noProcessRunsBesideTheFive() {
        for (int process : PROCESSES_TOO_SMALL) {
            due(Scene.FIVE.open().tables(process), NO_PROCESS);
            due(Scene.FIVE.open().exit(process), NO_PROCESS);
        }
        for (int process : PROCESSES_TOO_LARGE) {
            due(Scene.FIVE.open().tables(process), NO_PROCESS);
            due(Scene.FIVE.open().exit(process), NO_PROCESS);
        }
    }

    @Says("A running process has some of the PAGES 0 .. 63 MAPPED, each to a data frame")
    static void firstAndLastPage() {
        ForkedPages x = new ForkedPages();
        x.spawn();
        due(x.map(0, 0, false), 3);
        due(x.map(0, 63, false), 3);
        due(x.map(0, -1, false), BAD);
        due(x.map(0, 64, false), BAD);
        due(x.pages(0), 2);
        due(x.twin(0, 0, 0, -1), 0);
        due(x.twin(0, 63, 0, -1), 63);
    }

    @Says("A running process has some of the PAGES 0 .. 63 MAPPED, each to a data frame")
    static void everyPageMappedAtOnce() {
        ForkedPages x = new ForkedPages();
        x.spawn();
        x.map(0, 40, true);
        for (int page = 0; page < 64; page++) {
            due(x.attach(0, page, 0, 40) >= 0 ? 1 : 0, page == 40 ? 0 : 1);
        }
        due(x.pages(0), 64);
        for (int page = 0; page < 64; page++) {
            due(x.count(0, page), 64);
            due(x.mapping(0, page), 3);
            due(x.twin(0, 40, 0, page), page + 1);
        }
        for (int page = 0; page < 63; page++) {
            x.unmap(0, page);
        }
        due(x.pages(0), 1);
        due(x.unmap(0, 63), 3);
        due(x.pages(0), 0);
    }

    @Says("ADDRESS a (0 .. 255) is word a % 4 of the frame to which page a / 4 is mapped.")
    static void everyAddressIsReadOnItsPage() {
        for (int page = 0; page < 64; page++) {
            ForkedPages x = new ForkedPages();
            x.spawn();
            x.map(0, page, false);
            Scene.fillWords(x, 0, page);
            for (int address = -8; address < 264; address++) {
                boolean here = address >= page * 4 && address < page * 4 + 4;
                due(x.read(0, address), here ? page * 100 + address % 4 + 1 : NOTHING);
            }
        }
    }

    @Says("ADDRESS a (0 .. 255) is word a % 4 of the frame to which page a / 4 is mapped.")
    static void everyAddressIsWrittenOnItsPage() {
        for (int page = 0; page < 64; page++) {
            ForkedPages x = new ForkedPages();
            x.spawn();
            x.map(0, page, false);
            for (int address = -8; address < 264; address++) {
                boolean here = address >= page * 4 && address < page * 4 + 4;
                boolean bad = address < 0 || address > 255;
                due(x.write(0, address, address + 1000), here ? 0 : bad ? BAD : UNMAPPED);
            }
            for (int address = page * 4; address < page * 4 + 4; address++) {
                due(x.read(0, address), address + 1000);
            }
        }
    }

    @Says("An object is used for at most 512 calls after it has been made")
    static void callFiveHundredAndTwelveIsStillAnswered() {
        ForkedPages x = new ForkedPages();
        due(x.spawn(), 0);
        due(x.map(0, 9, false), 3);
        due(x.write(0, 37, 4711), 0);
        // 127 rounds of 4 calls are calls 4 .. 511.
        for (int round = 0; round < 127; round++) {
            due(x.fork(0), 1);
            due(x.write(1, 37, round), 2);
            due(x.exit(1), 4);
            due(x.free(), 20);
        }
        due(x.read(0, 37), 4711);
    }

    @Says("An object is used for at most 512 calls after it has been made")
    static void faultsAreCountedUpToTheLastCall() {
        ForkedPages x = new ForkedPages();
        x.spawn();
        for (int page = 0; page < 12; page++) {
            x.map(0, page, false);
        }
        // 13 calls till here; 35 rounds of 14 and a last question make 504.
        for (int round = 0; round < 35; round++) {
            due(x.fork(0), 1);
            due(x.exit(1), 5);
            for (int page = 0; page < 12; page++) {
                due(x.write(0, page * 4, round), 1);
            }
        }
        due(x.faults(false), 420);
    }

    @Says("An object is used for at most 512 calls after it has been made")
    static void copiesAreCountedUpToTheLastCall() {
        ForkedPages x = new ForkedPages();
        x.spawn();
        for (int page = 0; page < 8; page++) {
            x.map(0, page, false);
        }
        // 9 calls till here; 50 rounds of 10 and two questions make 511.
        for (int round = 0; round < 50; round++) {
            due(x.fork(0), 1);
            for (int page = 0; page < 8; page++) {
                due(x.write(0, page * 4, round), 2);
            }
            due(x.exit(1), 12);
        }
        due(x.faults(true), 400);
        due(x.faults(false), 400);
    }

    @Says("what nobody uses any more is free again")
    static void nothingLeaksInFiveHundredCalls() {
        ForkedPages x = new ForkedPages();
        for (int round = 0; round < 63; round++) {
            due(x.spawn(), 0);
            due(x.map(0, round, false), 3);
            due(x.fork(0), 1);
            due(x.write(1, round * 4, 5), 2);
            due(x.unmap(0, round), 3);
            due(x.exit(1), 4);
            due(x.exit(0), 1);
            due(x.free(), 24);
        }
    }
}
