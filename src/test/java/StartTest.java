/** Promises 1 to 4 at their edges: a new object, and how processes start and end. */
public final class StartTest extends Boundary {
    public static void main(String[] args) {
        runAll(StartTest.class);
    }

    private static ForkedPages started() {
        ForkedPages x = new ForkedPages();
        x.spawn();
        return x;
    }

    private static int leastNotIn(int running) {
        int number = 0;
        while ((running >> number & 1) == 1) {
            number++;
        }
        return number;
    }

    /** Of five processes, those run on whose bit is set. */
    private static ForkedPages onlyRunning(int running) {
        ForkedPages x = Scene.FIVE.open();
        for (int process = 0; process < 5; process++) {
            if ((running >> process & 1) == 0) {
                x.exit(process);
            }
        }
        return x;
    }

    // Promise 1

    @Says("All frames are free, no process runs.")
    static void newObject() {
        ForkedPages x = new ForkedPages();
        due(x.free(), 24);
        due(x.running(), 0);
        due(x.faults(false), 0);
        due(x.faults(true), 0);
    }

    @Says("All frames are free, no process runs.")
    static void newObjectBesideAFullOne() {
        ForkedPages old = Scene.FIVE_BRIM.open();
        ForkedPages x = new ForkedPages();
        due(x.free(), 24);
        due(x.running(), 0);
        due(x.spawn(), 0);
        due(x.map(0, 0, false), 3);
        due(x.read(0, 0), 0);
        due(old.free(), 0);
        due(old.read(0, 0), 1);
    }

    // Promise 2

    @Says("Starts a process without pages, the one with the least number that does not run: its number.")
    static void spawnTakesTheLeastNumber() {
        for (int running = 0; running < 31; running++) {
            ForkedPages x = onlyRunning(running);
            int number = leastNotIn(running);
            due(x.spawn(), number);
            due(x.running(), running + (1 << number));
        }
    }

    @Says("Starts a process without pages, the one with the least number that does not run: its number.")
    static void spawnHasNoPageOfTheOneThatEnded() {
        ForkedPages x = Scene.BRIM.open();
        x.exit(0);
        due(x.spawn(), 0);
        due(x.pages(0), 0);
        due(x.tables(0), 1);
        for (int page = 0; page < 64; page++) {
            due(x.mapping(0, page), UNMAPPED);
            due(x.read(0, page * 4), NOTHING);
        }
    }

    @Says("FULL: no process number is left.")
    static void spawnUpToFive() {
        ForkedPages x = new ForkedPages();
        for (int process = 0; process < 5; process++) {
            due(x.spawn(), process);
        }
        due(x.spawn(), FULL);
        due(x.running(), 31);
        due(x.exit(4), 1);
        due(x.spawn(), 4);
        due(x.spawn(), FULL);
    }

    // Promise 3

    @Says("Starts a process as a fork of a running one, the one with the least number that does not run: its number.")
    static void forkTakesTheLeastNumber() {
        for (int running = 1; running < 31; running++) {
            for (int parent = 0; parent < 5; parent++) {
                ForkedPages x = onlyRunning(running);
                boolean runs = (running >> parent & 1) == 1;
                int number = leastNotIn(running);
                due(x.fork(parent), runs ? number : NO_PROCESS);
                due(x.running(), runs ? running + (1 << number) : running);
            }
        }
    }

    @Says("FULL: no process number is left.")
    static void forkUpToFive() {
        ForkedPages x = started();
        x.map(0, 0, false);
        for (int child = 1; child < 5; child++) {
            due(x.fork(child - 1), child);
            due(x.count(0, 0), child + 1);
        }
        due(x.fork(4), FULL);
        due(x.free(), 8);
        due(x.exit(2), 3);
        due(x.fork(4), 2);
        due(x.count(2, 0), 5);
    }

    @Says("the child gets the same pages, mapped to the same frames")
    static void childHasTheSameFrames() {
        ForkedPages x = started();
        int[] pages = {0, 3, 31, 63};
        for (int page : pages) {
            x.map(0, page, page == 31);
            Scene.fillWords(x, 0, page);
        }
        due(x.fork(0), 1);
        due(x.pages(1), 4);
        for (int page : pages) {
            due(x.twin(0, page, 1, -1), page);
            due(x.count(1, page), 2);
            for (int word = 0; word < 4; word++) {
                due(x.read(1, page * 4 + word), page * 100 + word + 1);
            }
        }
        due(x.count(1, 1), UNMAPPED);
    }

    @Says("the child gets the same pages, mapped to the same frames")
    static void childHasNoPageOfTheOneThatEnded() {
        ForkedPages x = started();
        x.map(0, 5, false);
        x.spawn();
        x.map(1, 9, true);
        x.exit(1);
        due(x.fork(0), 1);
        due(x.pages(1), 1);
        due(x.mapping(1, 9), UNMAPPED);
        due(x.tables(1), 3);
    }

    @Says("private or common and writable or not as they are in the parent; all private mappings of both are marked then")
    static void childHasTheSameKinds() {
        ForkedPages x = Scene.BRIM.open();
        int[] kinds = {5, 3, 5, 4};
        for (int page = 0; page < 4; page++) {
            due(x.mapping(0, page), kinds[page]);
            due(x.mapping(1, page), kinds[page]);
        }
        ForkedPages common = started();
        common.map(0, 8, true);
        common.protect(0, 8, false);
        common.fork(0);
        due(common.mapping(0, 8), 2);
        due(common.mapping(1, 8), 2);
    }

    @Says("all private mappings of both are marked then")
    static void forkMarksAgainWhatWasWritten() {
        ForkedPages x = started();
        x.map(0, 0, false);
        x.map(0, 1, false);
        x.fork(0);
        x.write(0, 0, 1);
        due(x.mapping(0, 0), 1);
        due(x.mapping(0, 1), 5);
        due(x.fork(0), 2);
        due(x.mapping(0, 0), 5);
        due(x.mapping(0, 1), 5);
        due(x.mapping(2, 0), 5);
        due(x.mapping(2, 1), 5);
        due(x.mapping(1, 0), 5);
    }

    @Says("all private mappings of both are marked then")
    static void forkMarksNoThirdProcess() {
        ForkedPages x = started();
        x.map(0, 0, false);
        x.fork(0);
        x.write(1, 0, 1);
        due(x.mapping(1, 0), 1);
        due(x.fork(0), 2);
        due(x.mapping(1, 0), 1);
        due(x.write(1, 0, 2), 0);
    }

    @Says("all private mappings of both are marked then")
    static void forkMarksNoCommonPage() {
        ForkedPages x = started();
        x.map(0, 0, true);
        x.fork(0);
        x.fork(1);
        for (int process = 0; process < 3; process++) {
            due(x.mapping(process, 0), 3);
            due(x.write(process, 0, process), 0);
            due(x.read(0, 0), process);
        }
        due(x.faults(false), 0);
    }

    @Says("all private mappings of both are marked then")
    static void pageMappedAfterAForkIsTheParentsAlone() {
        ForkedPages x = started();
        x.fork(0);
        x.map(0, 0, false);
        due(x.mapping(0, 0), 1);
        due(x.mapping(1, 0), UNMAPPED);
        due(x.write(0, 0, 1), 0);
    }

    // Promise 4

    @Says("Answers how many frames became free.")
    static void exitWithoutPages() {
        ForkedPages x = started();
        due(x.exit(0), 1);
        due(x.free(), 24);
        due(x.running(), 0);
    }

    @Says("Answers how many frames became free.")
    static void exitOfOneThatHasAllFrames() {
        ForkedPages x = started();
        for (int page = 0; page < 15; page++) {
            x.map(0, page, page % 2 == 0);
        }
        x.map(0, 63, false);
        due(x.exit(0), 24);
        due(x.free(), 24);
    }

    @Says("Answers how many frames became free.")
    static void exitCountsAFrameOfManyPagesOnce() {
        ForkedPages x = started();
        x.map(0, 0, true);
        for (int page = 1; page < 64; page++) {
            x.attach(0, page, 0, 0);
        }
        due(x.exit(0), 22);
        due(x.free(), 24);
    }

    @Says("Ends a process: its mappings end and its tables are free.")
    static void exitLeavesWhatOthersUse() {
        ForkedPages x = Scene.BRIM.open();
        due(x.exit(0), 3);
        for (int page = 0; page < 4; page++) {
            due(x.count(1, page), 1);
            due(x.read(1, page * 4 + 3), page * 100 + 4);
        }
        due(x.mapping(1, 0), 5);
        due(x.write(1, 0, 5), 1);
        due(x.exit(1), 7);
    }

    @Says("Ends a process: its mappings end and its tables are free.")
    static void exitOfTheChildLeavesTheParentsWords() {
        ForkedPages x = started();
        x.map(0, 0, false);
        Scene.fillWords(x, 0, 0);
        x.fork(0);
        x.write(1, 0, 99);
        due(x.exit(1), 4);
        for (int word = 0; word < 4; word++) {
            due(x.read(0, word), word + 1);
        }
        due(x.mapping(0, 0), 5);
        due(x.write(0, 0, 7), 1);
    }

    @Says("Ends a process: its mappings end and its tables are free.")
    static void lastOfFiveToEndFreesTheFrame() {
        ForkedPages x = started();
        x.map(0, 0, false);
        for (int child = 1; child < 5; child++) {
            x.fork(0);
        }
        for (int process = 0; process < 4; process++) {
            due(x.exit(process), 3);
            due(x.count(4, 0), 4 - process);
        }
        due(x.exit(4), 4);
        due(x.free(), 24);
    }
}
