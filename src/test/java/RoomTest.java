/** "NO_ROOM: fewer frames are free than the call needs": each call with just as many as it needs, and with one fewer. */
public final class RoomTest extends Boundary {
    public static void main(String[] args) {
        runAll(RoomTest.class);
    }

    /** Process 0 with common page 0 and private page 1, shared with no one; then as many frames left as told. */
    private static Scene twoPages(int left) {
        return new Scene(x -> {
            x.spawn();
            x.map(0, 0, true);
            x.map(0, 1, false);
            Scene.fillWords(x, 0, 0);
            Scene.fillWords(x, 0, 1);
            Scene.fill(x, left);
        });
    }

    /** Process 0 and its fork 1 share private page 0; then as many frames left as told. */
    private static Scene sharedPage(int left) {
        return new Scene(x -> {
            x.spawn();
            x.map(0, 0, false);
            Scene.fillWords(x, 0, 0);
            x.fork(0);
            Scene.fill(x, left);
        });
    }

    @Says("Starts a process without pages")
    static void spawnNeedsOne() {
        ForkedPages x = twoPages(1).open();
        due(x.spawn(), 2);
        due(x.free(), 0);
        twoPages(0).refuses(ForkedPages::spawn, NO_ROOM);
    }

    @Says("It needs as many frames as the parent has tables.")
    static void forkOfAProcessWithoutPagesNeedsOne() {
        Scene one = new Scene(x -> {
            x.spawn();
            Scene.fill(x, 1);
        });
        ForkedPages x = one.open();
        due(x.fork(0), 2);
        due(x.free(), 0);
        due(x.fork(0), NO_ROOM);
        due(x.running(), 7);
    }

    @Says("It needs as many frames as the parent has tables.")
    static void forkNeedsThreeForPagesOfOneTable() {
        ForkedPages x = twoPages(3).open();
        due(x.fork(0), 2);
        due(x.free(), 0);
        for (int left = 0; left < 3; left++) {
            twoPages(left).refuses(y -> y.fork(0), NO_ROOM);
        }
    }

    @Says("It needs as many frames as the parent has tables.")
    static void forkNeedsNoneForDataFrames() {
        Scene many = new Scene(x -> {
            x.spawn();
            for (int page = 0; page < 8; page++) {
                x.map(0, page, false);
            }
        });
        ForkedPages x = many.open();
        due(x.tables(0), 4);
        due(x.free(), 12);
        for (int child = 1; child < 4; child++) {
            due(x.fork(0), child);
            due(x.free(), 12 - 4 * child);
        }
        due(x.count(0, 7), 4);
        due(x.fork(0), NO_ROOM);
    }

    @Says("It needs as many frames as the parent has tables.")
    static void forkNeedsFiveForPagesFarApart() {
        for (int left = 0; left < 7; left++) {
            int free = left;
            Scene apart = new Scene(x -> {
                x.spawn();
                x.map(0, 0, false);
                x.map(0, 63, false);
                Scene.fill(x, free);
            });
            if (left < 5) {
                apart.refuses(x -> x.fork(0), NO_ROOM);
            } else {
                ForkedPages x = apart.open();
                due(x.fork(0), 2);
                due(x.free(), left - 5);
            }
        }
    }

    @Says("answers how many frames were taken (the data frame and the tables that became necessary)")
    static void mapNeedsOneBesideAnotherPage() {
        ForkedPages x = twoPages(1).open();
        due(x.map(0, 2, false), 1);
        due(x.free(), 0);
        twoPages(0).refuses(y -> y.map(0, 2, false), NO_ROOM);
        twoPages(0).refuses(y -> y.map(0, 3, true), NO_ROOM);
    }

    @Says("answers how many frames were taken (the data frame and the tables that became necessary)")
    static void mapNeedsTwoForALowestTable() {
        ForkedPages x = twoPages(2).open();
        due(x.map(0, 15, true), 2);
        due(x.free(), 0);
        for (int left = 0; left < 2; left++) {
            twoPages(left).refuses(y -> y.map(0, 15, true), NO_ROOM);
            twoPages(left).refuses(y -> y.map(0, 4, false), NO_ROOM);
        }
    }

    @Says("answers how many frames were taken (the data frame and the tables that became necessary)")
    static void mapNeedsThreeForAMiddleTable() {
        ForkedPages x = twoPages(3).open();
        due(x.map(0, 16, false), 3);
        due(x.free(), 0);
        for (int left = 0; left < 3; left++) {
            twoPages(left).refuses(y -> y.map(0, 16, false), NO_ROOM);
            twoPages(left).refuses(y -> y.map(0, 63, true), NO_ROOM);
        }
    }

    @Says("Answers how many frames were taken (for tables).")
    static void attachNeedsNoneBesideAnotherPage() {
        ForkedPages x = twoPages(0).open();
        due(x.attach(0, 2, 0, 0), 0);
        due(x.attach(1, 0, 0, 0), TAKEN);
        due(x.attach(1, 15, 0, 0), 0);
        due(x.read(1, 60), 1);
        due(x.count(0, 0), 3);
        due(x.free(), 0);
    }

    @Says("Answers how many frames were taken (for tables).")
    static void attachNeedsOneForALowestTable() {
        ForkedPages x = twoPages(1).open();
        due(x.attach(0, 4, 0, 0), 1);
        due(x.free(), 0);
        twoPages(0).refuses(y -> y.attach(0, 4, 0, 0), NO_ROOM);
        twoPages(0).refuses(y -> y.attach(0, 15, 0, 0), NO_ROOM);
    }

    @Says("Answers how many frames were taken (for tables).")
    static void attachNeedsTwoForAMiddleTable() {
        ForkedPages x = twoPages(2).open();
        due(x.attach(1, 63, 0, 0), 2);
        due(x.free(), 0);
        for (int left = 0; left < 2; left++) {
            twoPages(left).refuses(y -> y.attach(1, 63, 0, 0), NO_ROOM);
            twoPages(left).refuses(y -> y.attach(0, 16, 0, 0), NO_ROOM);
        }
    }

    @Says("NO_ROOM (when a copy is needed and no frame is free)")
    static void copyNeedsOne() {
        ForkedPages x = sharedPage(1).open();
        due(x.write(0, 0, 9), 2);
        due(x.free(), 0);
        due(x.read(0, 0), 9);
        due(x.read(0, 3), 4);
        due(x.read(1, 0), 1);
    }

    @Says("NO_ROOM (when a copy is needed and no frame is free)")
    static void copyWithoutAFrame() {
        sharedPage(0).refuses(x -> x.write(0, 0, 9), NO_ROOM);
        sharedPage(0).refuses(x -> x.write(1, 3, 9), NO_ROOM);
    }

    @Says("NO_ROOM (when a copy is needed and no frame is free)")
    static void copyWithoutAFrameEvenOfTheSameWord() {
        sharedPage(0).refuses(x -> x.write(0, 0, 1), NO_ROOM);
    }

    @Says("NO_ROOM (when a copy is needed and no frame is free)")
    static void faultWithoutACopyNeedsNone() {
        ForkedPages x = sharedPage(0).open();
        due(x.unmap(1, 0), 2);
        due(x.map(2, 1, false), TAKEN);
        due(x.spawn(), 3);
        due(x.spawn(), 4);
        due(x.free(), 0);
        due(x.write(0, 0, 9), 1);
        due(x.free(), 0);
        due(x.read(0, 0), 9);
    }

    @Says("NO_ROOM (when a copy is needed and no frame is free)")
    static void writeThatIsNoFaultNeedsNone() {
        ForkedPages x = twoPages(0).open();
        due(x.write(0, 0, 9), 0);
        due(x.write(0, 4, 9), 0);
        ForkedPages brim = Scene.BRIM.open();
        due(brim.write(0, 4, 9), 0);
        due(brim.write(1, 5, 9), 0);
        due(brim.count(0, 1), 2);
    }

    @Says("a data frame whose count is 0 is free")
    static void frameThatBecameFreeIsEnoughForACopy() {
        ForkedPages x = sharedPage(0).open();
        due(x.write(0, 0, 9), NO_ROOM);
        due(x.unmap(2, 0), 1);
        due(x.write(0, 0, 9), 2);
        due(x.free(), 0);
    }

    @Says("Ends a process: its mappings end and its tables are free.")
    static void exitNeedsNone() {
        ForkedPages x = Scene.FIVE_BRIM.open();
        due(x.exit(4), 1);
        due(x.exit(1), 3);
        due(x.exit(0), 7);
        due(x.exit(3), 1);
        due(x.exit(2), 12);
        due(x.free(), 24);
    }

    @Says("Ends the mapping of a page")
    static void unmapNeedsNone() {
        ForkedPages x = Scene.FIVE_BRIM.open();
        due(x.unmap(0, 0), 0);
        due(x.unmap(1, 0), 1);
        due(x.free(), 1);
    }

    @Says("Makes the mapping of a page writable, or not")
    static void protectNeedsNone() {
        ForkedPages x = Scene.FIVE_BRIM.open();
        due(x.protect(0, 3, true), 1);
        due(x.protect(0, 0, false), 1);
        due(x.free(), 0);
    }

    @Says("How many frames are free.")
    static void eachNumberOfFreeFrames() {
        for (int left = 0; left <= 9; left++) {
            due(twoPages(left).open().free(), left);
        }
        ForkedPages x = new ForkedPages();
        due(x.free(), 24);
        Scene.spawn(x, 5);
        due(x.free(), 19);
    }
}
