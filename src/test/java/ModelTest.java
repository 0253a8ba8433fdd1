import java.util.ArrayList;
import java.util.List;

/**
 * Many runs of 512 calls, each call answered by ForkedPages and by PlainModel.
 * The calls come from a fixed row of numbers, so every run of the test is the same.
 */
public final class ModelTest {
    private static final int RUNS = 3000;
    private static final int CALLS = 512;
    private static final int[] EDGES = {
        Integer.MIN_VALUE, -65, -64, -5, -4, -3, -2, -1, 5, 31, 32, 63, 64, 65, 127, 255, 256, 257, 1 << 20, 1 << 30,
        Integer.MAX_VALUE - 1, Integer.MAX_VALUE};

    private final ForkedPages pages = new ForkedPages();
    private final PlainModel model = new PlainModel();
    private final List<String> calls = new ArrayList<>();
    private final int pageSpan;
    private final int processSpan;
    private final int startWeight;
    private final boolean mostlyCommon;
    private long seed;

    private ModelTest(int run) {
        seed = run * 0x9E3779B97F4A7C15L + 1;
        pageSpan = new int[] {3, 6, 20, 64}[below(4)];
        processSpan = 2 + below(4);
        startWeight = new int[] {2, 8, 30}[below(3)];
        mostlyCommon = below(3) == 0;
    }

    public static void main(String[] args) {
        for (int run = 0; run < RUNS && !Check.failed(); run++) {
            new ModelTest(run).play();
        }
        Check.finish();
    }

    private int below(int bound) {
        seed = seed * 6364136223846793005L + 1442695040888963407L;
        return (int) ((seed >>> 33) % bound);
    }

    private int process() {
        return below(60) == 0 ? EDGES[below(EDGES.length)] : below(processSpan);
    }

    private int page() {
        if (below(60) == 0) {
            return EDGES[below(EDGES.length)];
        }
        return below(8) == 0 ? below(64) : below(pageSpan);
    }

    private int address() {
        return below(60) == 0 ? EDGES[below(EDGES.length)] : Math.floorMod(page(), 64) * 4 + below(4);
    }

    private void play() {
        for (int call = 0; call < CALLS && !Check.failed(); call++) {
            int choice = below(100);
            if (choice < startWeight) {
                startOrEnd();
            } else if (choice < 60) {
                change();
            } else {
                ask();
            }
        }
        if (Check.failed()) {
            System.out.println("after: " + String.join("; ", calls));
        }
    }

    private void due(String call, long got, long want) {
        Check.due(call, got, want);
        calls.add(call + " " + want);
    }

    private void startOrEnd() {
        int p = process();
        switch (below(4)) {
            case 0 -> due("spawn()", pages.spawn(), model.spawn());
            case 1 -> due("exit(" + p + ")", pages.exit(p), model.exit(p));
            default -> due("fork(" + p + ")", pages.fork(p), model.fork(p));
        }
    }

    private void change() {
        int p = process();
        int page = page();
        int q = process();
        int from = page();
        boolean flag = below(mostlyCommon ? 4 : 2) != 0;
        int address = address();
        int word = below(5) == 0 ? EDGES[below(EDGES.length)] : below(1000);
        switch (below(10)) {
            case 0, 1, 2 -> due("map(" + p + ", " + page + ", " + flag + ")",
                pages.map(p, page, flag), model.map(p, page, flag));
            case 3, 4 -> due("attach(" + p + ", " + page + ", " + q + ", " + from + ")",
                pages.attach(p, page, q, from), model.attach(p, page, q, from));
            case 5 -> due("unmap(" + p + ", " + page + ")", pages.unmap(p, page), model.unmap(p, page));
            case 6 -> due("protect(" + p + ", " + page + ", " + flag + ")",
                pages.protect(p, page, flag), model.protect(p, page, flag));
            default -> due("write(" + p + ", " + address + ", " + word + ")",
                pages.write(p, address, word), model.write(p, address, word));
        }
    }

    private void ask() {
        int p = process();
        int page = page();
        int q = process();
        int after = below(3) == 0 ? -1 : page();
        int address = address();
        boolean flag = below(2) == 0;
        switch (below(12)) {
            case 0 -> due("free()", pages.free(), model.free());
            case 1 -> due("tables(" + p + ")", pages.tables(p), model.tables(p));
            case 2 -> due("pages(" + p + ")", pages.pages(p), model.pages(p));
            case 3, 4 -> due("count(" + p + ", " + page + ")", pages.count(p, page), model.count(p, page));
            case 5, 6 -> due("mapping(" + p + ", " + page + ")", pages.mapping(p, page), model.mapping(p, page));
            case 7 -> due("twin(" + p + ", " + page + ", " + q + ", " + after + ")",
                pages.twin(p, page, q, after), model.twin(p, page, q, after));
            case 8 -> due("running()", pages.running(), model.running());
            case 9 -> due("faults(" + flag + ")", pages.faults(flag), model.faults(flag));
            default -> due("read(" + p + ", " + address + ")", pages.read(p, address), model.read(p, address));
        }
    }
}
