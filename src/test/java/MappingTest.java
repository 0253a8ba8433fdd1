/** Promises 5 to 8 at their edges: how mappings begin, end and change. */
public final class MappingTest extends Boundary {
    public static void main(String[] args) {
        runAll(MappingTest.class);
    }

    private static ForkedPages started() {
        ForkedPages x = new ForkedPages();
        x.spawn();
        return x;
    }

    private static void dueWords(ForkedPages x, int process, int page, int first, int step) {
        for (int word = 0; word < 4; word++) {
            due(x.read(process, page * 4 + word), first + word * step);
        }
    }

    // Promise 5

    @Says("Maps a page to a frame that was free, its four words 0")
    static void mapAfterAnUnmapHasWordsZero() {
        ForkedPages x = started();
        for (int page = 0; page < 15; page++) {
            x.map(0, page, false);
            Scene.fillWords(x, 0, page);
        }
        for (int page = 0; page < 15; page++) {
            x.unmap(0, page);
            x.map(0, page, true);
            dueWords(x, 0, page, 0, 0);
        }
    }

    @Says("Maps a page to a frame that was free, its four words 0")
    static void mapAfterAnExitHasWordsZero() {
        ForkedPages x = started();
        for (int page = 0; page < 15; page++) {
            x.map(0, page, page % 2 == 0);
            Scene.fillWords(x, 0, page);
        }
        x.exit(0);
        x.spawn();
        for (int page = 0; page < 15; page++) {
            x.map(0, page, false);
            dueWords(x, 0, page, 0, 0);
        }
    }

    @Says("Maps a page to a frame that was free, its four words 0")
    static void mapAfterACopyHasWordsZero() {
        ForkedPages x = started();
        x.map(0, 0, false);
        Scene.fillWords(x, 0, 0);
        x.fork(0);
        x.write(1, 0, 9);
        x.exit(1);
        x.map(0, 1, false);
        x.map(0, 2, false);
        dueWords(x, 0, 1, 0, 0);
        dueWords(x, 0, 2, 0, 0);
        dueWords(x, 0, 0, 1, 1);
    }

    @Says("Maps a page to a frame that was free")
    static void mapNeverTakesAFrameThatIsUsed() {
        ForkedPages x = started();
        for (int page = 0; page < 15; page++) {
            x.map(0, page, false);
            Scene.fillWords(x, 0, page);
        }
        for (int hole = 0; hole < 15; hole += 2) {
            x.unmap(0, hole);
        }
        for (int hole = 0; hole < 15; hole += 2) {
            x.map(0, hole, false);
            x.write(0, hole * 4, -hole);
        }
        for (int page = 0; page < 15; page++) {
            due(x.count(0, page), 1);
            due(x.read(0, page * 4), page % 2 == 0 ? -page : page * 100 + 1);
            due(x.read(0, page * 4 + 3), page % 2 == 0 ? 0 : page * 100 + 4);
        }
    }

    @Says("private or common, writable, not marked")
    static void mapKinds() {
        ForkedPages x = started();
        x.map(0, 0, false);
        x.map(0, 63, true);
        due(x.mapping(0, 0), 1);
        due(x.mapping(0, 63), 3);
    }

    @Says("private or common, writable, not marked")
    static void mapKeepsNothingOfAnEarlierMapping() {
        ForkedPages x = started();
        x.map(0, 0, false);
        x.map(0, 1, true);
        x.protect(0, 0, false);
        x.protect(0, 1, false);
        x.fork(0);
        x.unmap(0, 0);
        x.unmap(0, 1);
        x.map(0, 0, false);
        x.map(0, 1, false);
        due(x.mapping(0, 0), 1);
        due(x.mapping(0, 1), 1);
        due(x.write(0, 0, 1), 0);
        due(x.read(1, 0), 0);
    }

    @Says("private or common, writable, not marked")
    static void mapKeepsNothingOfAProcessThatEnded() {
        ForkedPages x = started();
        x.map(0, 0, true);
        x.protect(0, 0, false);
        x.map(0, 1, false);
        x.fork(0);
        x.exit(0);
        x.spawn();
        x.map(0, 0, false);
        x.map(0, 1, true);
        due(x.mapping(0, 0), 1);
        due(x.mapping(0, 1), 3);
        due(x.mapping(1, 0), 2);
        due(x.mapping(1, 1), 5);
    }

    // Promise 6

    @Says("Maps a page of a process to the frame of a common page of a process (the same one or another)")
    static void attachInTheSameProcess() {
        ForkedPages x = started();
        x.map(0, 63, true);
        Scene.fillWords(x, 0, 63);
        due(x.attach(0, 0, 0, 63), 2);
        dueWords(x, 0, 0, 6301, 1);
        due(x.twin(0, 63, 0, -1), 0);
        due(x.count(0, 0), 2);
        x.write(0, 1, -5);
        due(x.read(0, 253), -5);
    }

    @Says("Maps a page of a process to the frame of a common page of a process (the same one or another)")
    static void attachInAnotherProcess() {
        ForkedPages x = started();
        x.spawn();
        x.map(1, 0, true);
        Scene.fillWords(x, 1, 0);
        due(x.attach(0, 0, 1, 0), 2);
        due(x.attach(0, 63, 1, 0), 2);
        dueWords(x, 0, 63, 1, 1);
        due(x.count(1, 0), 3);
        due(x.write(0, 252, 8), 0);
        due(x.read(1, 0), 8);
        due(x.read(0, 0), 8);
    }

    @Says("Maps a page of a process to the frame of a common page of a process (the same one or another)")
    static void attachOfAnAttachedPage() {
        ForkedPages x = started();
        x.map(0, 0, true);
        for (int page = 1; page < 8; page++) {
            due(x.attach(0, page, 0, page - 1), page == 4 ? 1 : 0);
            due(x.unmap(0, page - 1), page == 4 ? 1 : 0);
        }
        due(x.count(0, 7), 1);
        due(x.unmap(0, 7), 3);
    }

    @Says("common, writable if the other mapping is, not marked")
    static void attachKinds() {
        ForkedPages x = started();
        x.map(0, 0, true);
        x.map(0, 1, true);
        x.protect(0, 1, false);
        x.attach(0, 2, 0, 0);
        x.attach(0, 3, 0, 1);
        due(x.mapping(0, 2), 3);
        due(x.mapping(0, 3), 2);
        due(x.write(0, 8, 1), 0);
        due(x.write(0, 12, 1), READ_ONLY);
    }

    @Says("common, writable if the other mapping is, not marked")
    static void attachKeepsNothingOfAnEarlierMapping() {
        ForkedPages x = started();
        x.map(0, 0, true);
        x.map(0, 1, false);
        x.protect(0, 1, false);
        x.fork(0);
        x.unmap(0, 1);
        due(x.attach(0, 1, 0, 0), 0);
        due(x.mapping(0, 1), 3);
        due(x.mapping(1, 1), 4);
    }

    @Says("common, writable if the other mapping is, not marked")
    static void attachLooksAtTheMappingNotAtTheFrame() {
        ForkedPages x = started();
        x.map(0, 0, true);
        x.attach(0, 1, 0, 0);
        x.protect(0, 1, false);
        x.attach(0, 2, 0, 0);
        x.attach(0, 3, 0, 1);
        due(x.mapping(0, 2), 3);
        due(x.mapping(0, 3), 2);
    }

    @Says("a fork shares frames instead of copying them, the first write of either side copies, pages can be shared for good")
    static void attachedPagesStaySharedAfterAFork() {
        ForkedPages x = started();
        x.map(0, 0, true);
        x.attach(0, 1, 0, 0);
        x.fork(0);
        due(x.count(0, 0), 4);
        due(x.write(1, 4, 6), 0);
        due(x.read(0, 0), 6);
        due(x.attach(1, 2, 0, 1), 0);
        due(x.count(0, 0), 5);
    }

    // Promise 7

    @Says("answers how many frames became free (the data frame, if its count is 0 then, and tables that are not necessary any more)")
    static void unmapFreesNothing() {
        ForkedPages x = started();
        x.map(0, 0, true);
        x.attach(0, 3, 0, 0);
        due(x.unmap(0, 0), 0);
        due(x.free(), 20);
        due(x.count(0, 3), 1);
    }

    @Says("answers how many frames became free (the data frame, if its count is 0 then, and tables that are not necessary any more)")
    static void unmapFreesTheDataFrameAlone() {
        ForkedPages x = started();
        x.map(0, 0, false);
        x.map(0, 3, false);
        due(x.unmap(0, 3), 1);
        due(x.free(), 20);
    }

    @Says("answers how many frames became free (the data frame, if its count is 0 then, and tables that are not necessary any more)")
    static void unmapFreesOneTableAlone() {
        ForkedPages x = started();
        x.map(0, 0, true);
        x.attach(0, 4, 0, 0);
        due(x.unmap(0, 4), 1);
        due(x.free(), 20);
    }

    @Says("answers how many frames became free (the data frame, if its count is 0 then, and tables that are not necessary any more)")
    static void unmapFreesTwoTablesAlone() {
        ForkedPages x = started();
        x.map(0, 0, true);
        x.attach(0, 16, 0, 0);
        due(x.unmap(0, 0), 2);
        due(x.free(), 20);
    }

    @Says("answers how many frames became free (the data frame, if its count is 0 then, and tables that are not necessary any more)")
    static void unmapFreesAllThree() {
        ForkedPages x = started();
        x.map(0, 0, false);
        x.map(0, 63, false);
        due(x.unmap(0, 0), 3);
        due(x.unmap(0, 63), 3);
        due(x.free(), 23);
    }

    @Says("Ends the mapping of a page")
    static void unmapEndsThisMappingAlone() {
        ForkedPages x = Scene.BRIM.open();
        due(x.unmap(0, 2), 0);
        due(x.mapping(0, 2), UNMAPPED);
        due(x.read(0, 8), NOTHING);
        due(x.pages(0), 3);
        due(x.mapping(1, 2), 5);
        due(x.read(1, 8), 201);
        due(x.count(1, 2), 1);
        due(x.read(0, 7), 104);
        due(x.read(0, 12), 301);
    }

    // Promise 8

    @Says("1 when that changed something, else 0")
    static void protectAnswersWhetherItChanged() {
        ForkedPages x = started();
        for (int page = 0; page < 64; page += 63) {
            x.map(0, page, page == 0);
            due(x.protect(0, page, true), 0);
            due(x.protect(0, page, false), 1);
            due(x.protect(0, page, false), 0);
            due(x.protect(0, page, true), 1);
            due(x.protect(0, page, true), 0);
        }
    }

    @Says("1 when that changed something, else 0")
    static void protectThatChangesNothing() {
        Scene.MIXED.isLeftAloneBy(x -> x.protect(0, 0, true));
        Scene.MIXED.isLeftAloneBy(x -> x.protect(0, 63, false));
        Scene.MIXED.isLeftAloneBy(x -> x.protect(1, 16, false));
        Scene.MIXED.isLeftAloneBy(x -> x.protect(1, 16, true) + x.protect(1, 16, false));
    }

    @Says("whether it is marked stays")
    static void protectLeavesTheMark() {
        ForkedPages x = Scene.BRIM.open();
        due(x.protect(0, 0, false), 1);
        due(x.mapping(0, 0), 4);
        due(x.protect(0, 0, true), 1);
        due(x.mapping(0, 0), 5);
        due(x.protect(1, 3, true), 1);
        due(x.mapping(1, 3), 5);
    }

    @Says("whether it is marked stays")
    static void protectMarksNothing() {
        ForkedPages x = started();
        x.map(0, 0, false);
        x.protect(0, 0, false);
        due(x.mapping(0, 0), 0);
        x.protect(0, 0, true);
        due(x.mapping(0, 0), 1);
        due(x.write(0, 0, 1), 0);
    }

    @Says("Makes the mapping of a page writable, or not")
    static void protectChangesThisMappingAlone() {
        ForkedPages x = started();
        x.map(0, 0, true);
        x.attach(0, 1, 0, 0);
        x.fork(0);
        due(x.protect(0, 0, false), 1);
        due(x.mapping(0, 0), 2);
        due(x.mapping(0, 1), 3);
        due(x.mapping(1, 0), 3);
        due(x.write(0, 0, 5), READ_ONLY);
        due(x.write(0, 4, 5), 0);
        due(x.read(0, 0), 5);
    }

    @Says("Makes the mapping of a page writable, or not")
    static void protectedPageIsWrittenWhenItIsWritableAgain() {
        ForkedPages x = started();
        x.map(0, 0, false);
        x.protect(0, 0, false);
        x.fork(0);
        due(x.write(1, 0, 5), READ_ONLY);
        x.protect(1, 0, true);
        due(x.write(1, 0, 5), 2);
        due(x.write(0, 0, 5), READ_ONLY);
        x.protect(0, 0, true);
        due(x.write(0, 0, 6), 1);
    }
}
