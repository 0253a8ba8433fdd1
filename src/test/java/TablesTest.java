/** The tables of a process: which pages need one, and that they come and go. */
public final class TablesTest extends Boundary {
    public static void main(String[] args) {
        runAll(TablesTest.class);
    }

    private static ForkedPages started() {
        ForkedPages x = new ForkedPages();
        x.spawn();
        return x;
    }

    @Says("So a process without pages takes one frame.")
    static void processWithoutPages() {
        ForkedPages x = started();
        due(x.tables(0), 1);
        due(x.free(), 23);
    }

    @Says("So a process without pages takes one frame.")
    static void processWithoutPagesAnyMore() {
        ForkedPages x = started();
        x.map(0, 33, false);
        x.unmap(0, 33);
        due(x.tables(0), 1);
        due(x.free(), 23);
    }

    @Says("So a process without pages takes one frame.")
    static void forkWithoutPages() {
        ForkedPages x = started();
        due(x.fork(0), 1);
        due(x.tables(1), 1);
        due(x.pages(1), 0);
        due(x.free(), 22);
    }

    @Says("one for itself")
    static void everyPageAloneNeedsThree() {
        for (int page = 0; page < 64; page++) {
            ForkedPages x = started();
            due(x.map(0, page, false), 3);
            due(x.tables(0), 3);
            due(x.free(), 20);
            due(x.unmap(0, page), 3);
            due(x.tables(0), 1);
        }
    }

    @Says("page / 16 that its mapped pages have; and one for each number page / 4 that its mapped pages have (rounded down).")
    static void everyPairOfPages() {
        for (int one = 0; one < 64; one++) {
            for (int two = 0; two < 64; two++) {
                if (one != two) {
                    pairOfPages(one, two, (one / 16 == two / 16 ? 0 : 1) + (one / 4 == two / 4 ? 0 : 1));
                }
            }
        }
    }

    private static void pairOfPages(int one, int two, int more) {
        ForkedPages x = started();
        x.map(0, one, true);
        due(x.map(0, two, false), 1 + more);
        due(x.tables(0), 3 + more);
        due(x.free(), 19 - more);
        due(x.unmap(0, two), 1 + more);
        due(x.tables(0), 3);
        due(x.attach(0, two, 0, one), more);
        due(x.tables(0), 3 + more);
        due(x.unmap(0, one), more);
        due(x.unmap(0, two), 3);
        due(x.free(), 23);
    }

    @Says("page / 16 that its mapped pages have")
    static void fifteenAndSixteenHaveDifferentMiddleTables() {
        ForkedPages x = started();
        x.map(0, 0, true);
        due(x.attach(0, 15, 0, 0), 1);
        due(x.attach(0, 16, 0, 0), 2);
        due(x.attach(0, 31, 0, 0), 1);
        due(x.attach(0, 32, 0, 0), 2);
        due(x.attach(0, 47, 0, 0), 1);
        due(x.attach(0, 48, 0, 0), 2);
        due(x.attach(0, 63, 0, 0), 1);
        due(x.tables(0), 13);
    }

    @Says("one for each number page / 4 that its mapped pages have (rounded down)")
    static void threeAndFourHaveDifferentLowestTables() {
        ForkedPages x = started();
        x.map(0, 0, true);
        due(x.attach(0, 3, 0, 0), 0);
        due(x.attach(0, 4, 0, 0), 1);
        due(x.attach(0, 7, 0, 0), 0);
        due(x.attach(0, 8, 0, 0), 1);
        due(x.tables(0), 5);
    }

    @Says("one for each number page / 4 that its mapped pages have (rounded down)")
    static void allPagesNeedTwentyOne() {
        ForkedPages x = started();
        x.map(0, 0, true);
        for (int page = 1; page < 64; page++) {
            due(x.attach(0, page, 0, 0), page % 16 == 0 ? 2 : page % 4 == 0 ? 1 : 0);
        }
        due(x.tables(0), 21);
        due(x.free(), 2);
        for (int page = 0; page < 63; page++) {
            due(x.unmap(0, page), page % 16 == 15 ? 2 : page % 4 == 3 ? 1 : 0);
        }
        due(x.tables(0), 3);
    }

    @Says("Tables come and go with pages and processes")
    static void tableStaysWhileOneOfItsPagesIsMapped() {
        for (int last = 20; last < 24; last++) {
            ForkedPages x = started();
            for (int page = 20; page < 24; page++) {
                x.map(0, page, false);
            }
            for (int page = 20; page < 24; page++) {
                due(page == last ? 1 : x.unmap(0, page), 1);
            }
            due(x.tables(0), 3);
            due(x.unmap(0, last), 3);
            due(x.tables(0), 1);
        }
    }

    @Says("Tables come and go with pages and processes")
    static void tablesGoWithTheProcess() {
        ForkedPages x = started();
        x.map(0, 0, false);
        x.map(0, 63, false);
        x.exit(0);
        due(x.free(), 24);
        due(x.spawn(), 0);
        due(x.tables(0), 1);
    }

    @Says("a process never shares one")
    static void forkHasTablesOfItsOwn() {
        ForkedPages x = started();
        x.map(0, 0, false);
        x.map(0, 63, true);
        due(x.free(), 17);
        x.fork(0);
        due(x.tables(0), 5);
        due(x.tables(1), 5);
        due(x.free(), 12);
        due(x.unmap(0, 0), 2);
        due(x.tables(0), 3);
        due(x.tables(1), 5);
        due(x.exit(0), 3);
        due(x.tables(1), 5);
        due(x.free(), 17);
    }

    @Says("a process never shares one")
    static void samePageInAnotherProcessNeedsItsOwn() {
        ForkedPages x = started();
        x.spawn();
        x.map(0, 7, true);
        due(x.attach(1, 7, 0, 7), 2);
        due(x.map(1, 6, false), 1);
        due(x.map(0, 20, false), 3);
        due(x.map(1, 20, false), 3);
        due(x.tables(0), 5);
        due(x.tables(1), 5);
    }

    @Says("How many tables a process has. NO_PROCESS.")
    static void copyNeedsNoTable() {
        ForkedPages x = started();
        x.map(0, 0, false);
        x.fork(0);
        due(x.write(1, 0, 1), 2);
        due(x.tables(0), 3);
        due(x.tables(1), 3);
        due(x.free(), 16);
    }
}
