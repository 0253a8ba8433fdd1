/** Promises 9, 10 and 18 at their edges: writing, faults, copies and reading. */
public final class WordTest extends Boundary {
    public static void main(String[] args) {
        runAll(WordTest.class);
    }

    /** Process 0 with private page 7 and as many forks of it as told. */
    private static ForkedPages forked(int children) {
        ForkedPages x = new ForkedPages();
        x.spawn();
        x.map(0, 7, false);
        Scene.fillWords(x, 0, 7);
        for (int child = 0; child < children; child++) {
            x.fork(0);
        }
        return x;
    }

    private static void dueFaults(ForkedPages x, int all, int copies) {
        due(x.faults(false), all);
        due(x.faults(true), copies);
    }

    // Promise 9

    @Says("WRITING to a page whose mapping is not marked changes the word in its frame.")
    static void writeThatIsNoFault() {
        ForkedPages x = forked(0);
        due(x.write(0, 28, 5), 0);
        due(x.write(0, 31, 6), 0);
        due(x.read(0, 28), 5);
        due(x.read(0, 29), 702);
        due(x.read(0, 30), 703);
        due(x.read(0, 31), 6);
        dueFaults(x, 0, 0);
    }

    @Says("when the count of the frame is more than 1, the mapping is led to a frame that was free, with the same four words (this is a COPY)")
    static void copyHasTheSameWords() {
        for (int word = 0; word < 4; word++) {
            for (int writer = 0; writer < 2; writer++) {
                ForkedPages x = forked(1);
                due(x.write(writer, 28 + word, -9), 2);
                for (int i = 0; i < 4; i++) {
                    due(x.read(writer, 28 + i), i == word ? -9 : 701 + i);
                    due(x.read(1 - writer, 28 + i), 701 + i);
                }
                due(x.count(0, 7), 1);
                due(x.count(1, 7), 1);
                due(x.twin(0, 7, 1, -1), 64);
                due(x.free(), 16);
            }
        }
    }

    @Says("when the count of the frame is more than 1, the mapping is led to a frame that was free")
    static void copyOfACountOfTwoIsTheLast() {
        ForkedPages x = forked(1);
        due(x.write(1, 28, 5), 2);
        due(x.write(0, 28, 6), 1);
        due(x.free(), 16);
        due(x.read(1, 28), 5);
        due(x.read(0, 28), 6);
        dueFaults(x, 2, 1);
    }

    @Says("when the count of the frame is more than 1, the mapping is led to a frame that was free")
    static void copiesOfACountOfFive() {
        ForkedPages x = forked(4);
        for (int process = 0; process < 5; process++) {
            due(x.count(process, 7), 5 - process);
            due(x.write(process, 28, process + 10), process < 4 ? 2 : 1);
            due(x.mapping(process, 7), 1);
        }
        for (int process = 0; process < 5; process++) {
            due(x.read(process, 28), process + 10);
            due(x.read(process, 29), 702);
            due(x.count(process, 7), 1);
            due(x.write(process, 29, 0), 0);
        }
        dueFaults(x, 5, 4);
    }

    @Says("when the count of the frame is more than 1, the mapping is led to a frame that was free")
    static void writeOfTheSameWordCopiesToo() {
        ForkedPages x = forked(1);
        due(x.write(0, 28, 701), 2);
        due(x.count(1, 7), 1);
        dueFaults(x, 1, 1);
    }

    @Says("the mapping is led to a frame that was free, with the same four words (this is a COPY)")
    static void copyTouchesNoOtherFrame() {
        for (int hole = 0; hole < 8; hole++) {
            for (int written = 0; written < 8; written++) {
                if (written != hole) {
                    copyBesideAHole(hole, written);
                }
            }
        }
    }

    /** A page is unmapped before the copy, so that the free frame can lie between frames that are used. */
    private static void copyBesideAHole(int hole, int written) {
        ForkedPages x = new ForkedPages();
        x.spawn();
        for (int page = 0; page < 8; page++) {
            x.map(0, page, false);
            Scene.fillWords(x, 0, page);
        }
        x.unmap(0, hole);
        x.fork(0);
        due(x.write(1, written * 4 + 1, -9), 2);
        for (int address = 0; address < 32; address++) {
            long word = address / 4 == hole ? NOTHING : address / 4 * 100 + address % 4 + 1;
            due(x.read(0, address), word);
            due(x.read(1, address), address == written * 4 + 1 ? -9 : word);
        }
    }

    @Says("in any case it is marked no more")
    static void markGoesWithACopy() {
        ForkedPages x = forked(1);
        x.write(1, 28, 5);
        due(x.mapping(1, 7), 1);
        due(x.mapping(0, 7), 5);
        due(x.write(1, 28, 6), 0);
        due(x.write(1, 31, 6), 0);
    }

    @Says("in any case it is marked no more")
    static void markGoesWithoutACopyWhenTheOtherEnded() {
        ForkedPages x = forked(1);
        x.exit(0);
        due(x.mapping(1, 7), 5);
        due(x.write(1, 28, 5), 1);
        due(x.mapping(1, 7), 1);
        due(x.write(1, 28, 6), 0);
        dueFaults(x, 1, 0);
    }

    @Says("in any case it is marked no more")
    static void markGoesWithoutACopyWhenTheOtherUnmapped() {
        ForkedPages x = forked(1);
        x.unmap(1, 7);
        due(x.mapping(0, 7), 5);
        due(x.write(0, 28, 5), 1);
        due(x.mapping(0, 7), 1);
        due(x.read(0, 28), 5);
        due(x.read(0, 29), 702);
        dueFaults(x, 1, 0);
    }

    @Says("in any case it is marked no more")
    static void markIsOfOnePageAlone() {
        ForkedPages x = new ForkedPages();
        x.spawn();
        x.map(0, 0, false);
        x.map(0, 1, false);
        x.fork(0);
        due(x.write(0, 3, 5), 2);
        due(x.mapping(0, 0), 1);
        due(x.mapping(0, 1), 5);
        due(x.write(0, 4, 5), 2);
    }

    @Says("when the count of the frame is more than 1")
    static void childOfAChildShares() {
        ForkedPages x = forked(1);
        due(x.fork(1), 2);
        due(x.count(0, 7), 3);
        due(x.write(1, 28, 5), 2);
        due(x.fork(1), 3);
        due(x.count(1, 7), 2);
        due(x.count(0, 7), 2);
        due(x.write(3, 29, 6), 2);
        due(x.read(3, 28), 5);
        due(x.read(2, 28), 701);
        due(x.write(1, 28, 7), 1);
        due(x.write(2, 28, 8), 2);
        due(x.write(0, 28, 9), 1);
        dueFaults(x, 5, 3);
    }

    @Says("pages can be shared for good")
    static void writeToACommonPageIsNeverAFault() {
        ForkedPages x = new ForkedPages();
        x.spawn();
        x.map(0, 0, true);
        x.attach(0, 1, 0, 0);
        x.fork(0);
        x.attach(1, 2, 1, 0);
        due(x.write(0, 0, 5), 0);
        due(x.write(0, 5, 6), 0);
        due(x.write(1, 2, 7), 0);
        due(x.write(1, 7, 8), 0);
        due(x.write(1, 8, 9), 0);
        due(x.count(0, 0), 5);
        due(x.read(0, 4), 9);
        due(x.read(1, 1), 6);
        due(x.read(0, 2), 7);
        due(x.read(1, 11), 8);
        dueFaults(x, 0, 0);
    }

    // Promise 10

    @Says("The word at an address")
    static void readChangesNothing() {
        Scene.MIXED.isLeftAloneBy(x -> x.read(0, 0));
        Scene.MIXED.isLeftAloneBy(x -> x.read(1, 4));
        Scene.MIXED.isLeftAloneBy(x -> x.read(0, 255));
        Scene.BRIM.isLeftAloneBy(x -> x.read(0, 0));
    }

    @Says("The word at an address")
    static void readOfAPageThatIsNotWritable() {
        ForkedPages x = Scene.MIXED.open();
        for (int word = 0; word < 4; word++) {
            due(x.read(0, 252 + word), 6301 + word);
            due(x.read(1, 64 + word), 1601 + word);
        }
    }

    @Says("What read answers in place of a word: no int is so great.")
    static void nothingIsNoInt() {
        due(NOTHING, 1099511627776L);
        ForkedPages x = forked(0);
        for (int word : new int[] {GREATEST, LEAST, (int) NOTHING, -1}) {
            x.write(0, 28, word);
            due(x.read(0, 28), word);
        }
        due(x.read(0, 32), 1099511627776L);
    }

    // Promise 18

    @Says("How many faults there were, with copies (true) or all (false).")
    static void faultsOfANewObject() {
        dueFaults(new ForkedPages(), 0, 0);
    }

    @Says("How many faults there were, with copies (true) or all (false).")
    static void faultWithACopyIsCountedInBoth() {
        ForkedPages x = forked(1);
        x.write(0, 28, 1);
        dueFaults(x, 1, 1);
    }

    @Says("How many faults there were, with copies (true) or all (false).")
    static void faultWithoutACopyIsCountedInAllAlone() {
        ForkedPages x = forked(1);
        x.exit(1);
        x.write(0, 28, 1);
        dueFaults(x, 1, 0);
    }

    @Says("a call that is refused answers a code below 0 and changes nothing")
    static void refusedWriteIsNoFault() {
        ForkedPages x = Scene.BRIM.open();
        due(x.write(0, 0, 1), NO_ROOM);
        due(x.write(0, 12, 1), READ_ONLY);
        due(x.write(0, 16, 1), UNMAPPED);
        due(x.write(0, 256, 1), BAD);
        due(x.write(4, 0, 1), NO_PROCESS);
        dueFaults(x, 0, 0);
        x.exit(2);
        due(x.write(0, 0, 1), 2);
        dueFaults(x, 1, 1);
    }

    @Says("How many faults there were, with copies (true) or all (false).")
    static void faultsStayWhenTheProcessEnds() {
        ForkedPages x = forked(1);
        x.write(0, 28, 1);
        x.write(1, 28, 1);
        x.exit(0);
        x.exit(1);
        dueFaults(x, 2, 1);
        x.spawn();
        dueFaults(x, 2, 1);
    }
}
