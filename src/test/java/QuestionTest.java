/** Promises 11 to 17 at their edges: what can be asked, and that asking changes nothing. */
public final class QuestionTest extends Boundary {
    public static void main(String[] args) {
        runAll(QuestionTest.class);
    }

    /** Process 0 with common page 0, attached to 10 and 63 too, and private page 5. */
    private static ForkedPages threeTwins() {
        ForkedPages x = new ForkedPages();
        x.spawn();
        x.map(0, 0, true);
        x.map(0, 5, false);
        x.attach(0, 10, 0, 0);
        x.attach(0, 63, 0, 0);
        return x;
    }

    // Promise 11

    @Says("How many frames are free.")
    static void freeWithNoFrameLeft() {
        due(Scene.BRIM.open().free(), 0);
        due(Scene.FIVE_BRIM.open().free(), 0);
    }

    @Says("How many frames are free.")
    static void freeWithAllFramesLeftAgain() {
        ForkedPages x = Scene.FIVE_BRIM.open();
        for (int process = 0; process < 5; process++) {
            x.exit(process);
        }
        due(x.free(), 24);
    }

    // Promise 13

    @Says("How many pages of a process are mapped.")
    static void pagesOfNone() {
        ForkedPages x = Scene.MIXED.open();
        due(x.pages(2), 0);
        due(x.pages(0), 5);
        due(x.pages(1), 5);
    }

    @Says("How many pages of a process are mapped.")
    static void pagesUpToAll() {
        ForkedPages x = new ForkedPages();
        x.spawn();
        x.map(0, 63, true);
        for (int page = 0; page < 63; page++) {
            due(x.pages(0), page + 1);
            x.attach(0, page, 0, 63);
        }
        due(x.pages(0), 64);
    }

    // Promise 14

    @Says("The COUNT of a data frame is how many mappings (of all pages of all running processes) lead to it")
    static void countOverPagesAndProcesses() {
        ForkedPages x = threeTwins();
        due(x.count(0, 0), 3);
        due(x.count(0, 5), 1);
        x.spawn();
        x.attach(1, 63, 0, 10);
        due(x.count(0, 63), 4);
        due(x.count(1, 63), 4);
        x.unmap(0, 0);
        due(x.count(1, 63), 3);
        x.exit(0);
        due(x.count(1, 63), 1);
    }

    @Says("The COUNT of a data frame is how many mappings (of all pages of all running processes) lead to it")
    static void countOfAllPages() {
        ForkedPages x = new ForkedPages();
        x.spawn();
        x.map(0, 0, true);
        for (int page = 1; page < 64; page++) {
            x.attach(0, page, 0, page - 1);
            due(x.count(0, page), page + 1);
        }
        for (int page = 63; page > 0; page--) {
            x.unmap(0, page);
            due(x.count(0, 0), page);
        }
    }

    // Promise 15

    @Says("1 if it is writable, plus 2 if it is common, plus 4 if it is marked")
    static void everyKind() {
        ForkedPages x = new ForkedPages();
        x.spawn();
        for (int page = 0; page < 4; page++) {
            x.map(0, page, page >= 2);
            x.protect(0, page, page % 2 == 1);
            due(x.mapping(0, page), page);
        }
        x.fork(0);
        for (int process = 0; process < 2; process++) {
            due(x.mapping(process, 0), 4);
            due(x.mapping(process, 1), 5);
            due(x.mapping(process, 2), 2);
            due(x.mapping(process, 3), 3);
        }
    }

    // Promise 16

    @Says("The least page greater than after (any int)")
    static void twinAfterEachPage() {
        ForkedPages x = threeTwins();
        for (int after = -3; after < 67; after++) {
            int next = after < 0 ? 0 : after < 10 ? 10 : after < 63 ? 63 : 64;
            due(x.twin(0, 0, 0, after), next);
            due(x.twin(0, 10, 0, after), next);
            due(x.twin(0, 63, 0, after), next);
        }
    }

    @Says("The least page greater than after (any int)")
    static void twinAfterTheGreatestInt() {
        ForkedPages x = threeTwins();
        due(x.twin(0, 0, 0, GREATEST), 64);
        due(x.twin(0, 0, 0, GREATEST - 1), 64);
    }

    @Says("The least page greater than after (any int)")
    static void twinAfterTheLeastInt() {
        ForkedPages x = threeTwins();
        due(x.twin(0, 0, 0, LEAST), 0);
        due(x.twin(0, 0, 0, LEAST + 1), 0);
        due(x.twin(0, 5, 0, LEAST), 5);
    }

    @Says("The least page greater than after (any int)")
    static void twinAfterNumbersThatAreNoPages() {
        ForkedPages x = threeTwins();
        for (int after : PAGES_TOO_SMALL) {
            due(x.twin(0, 63, 0, after), 0);
        }
        for (int after : PAGES_TOO_LARGE) {
            due(x.twin(0, 0, 0, after), 64);
        }
    }

    @Says("the two processes may be the same, and the page itself counts then")
    static void twinOfAPageItself() {
        ForkedPages x = threeTwins();
        due(x.twin(0, 5, 0, -1), 5);
        due(x.twin(0, 5, 0, 4), 5);
        due(x.twin(0, 5, 0, 5), 64);
    }

    @Says("64 when there is none")
    static void twinInAProcessWithoutPages() {
        ForkedPages x = threeTwins();
        x.spawn();
        due(x.twin(0, 0, 1, -1), 64);
        due(x.twin(0, 0, 1, LEAST), 64);
    }

    @Says("64 when there is none")
    static void twinInAProcessWithOtherFrames() {
        ForkedPages x = threeTwins();
        x.spawn();
        x.map(1, 0, true);
        x.map(1, 5, false);
        due(x.twin(0, 0, 1, -1), 64);
        due(x.twin(1, 5, 0, -1), 64);
    }

    @Says("that process other has mapped to the frame to which process has page mapped")
    static void twinInAnotherProcess() {
        ForkedPages x = threeTwins();
        x.spawn();
        x.attach(1, 20, 0, 0);
        due(x.twin(0, 63, 1, -1), 20);
        due(x.twin(0, 63, 1, 20), 64);
        due(x.twin(1, 20, 0, 10), 63);
        due(x.twin(1, 20, 1, -1), 20);
    }

    @Says("that process other has mapped to the frame to which process has page mapped")
    static void twinAfterAnUnmap() {
        ForkedPages x = threeTwins();
        x.unmap(0, 10);
        due(x.twin(0, 0, 0, 0), 63);
        x.unmap(0, 63);
        due(x.twin(0, 0, 0, 0), 64);
        due(x.twin(0, 10, 0, 0), UNMAPPED);
    }

    @Says("that process other has mapped to the frame to which process has page mapped")
    static void twinOfAFork() {
        ForkedPages x = threeTwins();
        x.fork(0);
        due(x.twin(0, 5, 1, -1), 5);
        due(x.twin(1, 5, 0, -1), 5);
        due(x.twin(1, 0, 0, 0), 10);
        x.write(1, 20, 1);
        due(x.twin(0, 5, 1, -1), 64);
        due(x.twin(1, 5, 0, -1), 64);
        due(x.twin(1, 5, 1, -1), 5);
    }

    // Promise 17

    @Says("The sum of 1 << p over the processes p that run.")
    static void runningOfEverySet() {
        for (int set = 0; set < 32; set++) {
            ForkedPages x = Scene.FIVE.open();
            for (int process = 0; process < 5; process++) {
                if ((set >> process & 1) == 0) {
                    x.exit(process);
                }
            }
            due(x.running(), set);
        }
    }

    // All of them

    @Says("Nothing is promised beyond the answers and state changes described above")
    static void questionsChangeNothing() {
        for (Scene scene : new Scene[] {Scene.NEW, Scene.MIXED, Scene.BRIM, Scene.FIVE_BRIM}) {
            scene.isLeftAloneBy(ForkedPages::free);
            scene.isLeftAloneBy(x -> x.tables(0));
            scene.isLeftAloneBy(x -> x.pages(0));
            scene.isLeftAloneBy(x -> x.count(0, 0));
            scene.isLeftAloneBy(x -> x.mapping(0, 0));
            scene.isLeftAloneBy(x -> x.twin(0, 0, 1, -1));
            scene.isLeftAloneBy(ForkedPages::running);
            scene.isLeftAloneBy(x -> x.faults(true));
            scene.isLeftAloneBy(x -> x.faults(false));
        }
    }
}
