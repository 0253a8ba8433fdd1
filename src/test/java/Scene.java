import java.util.ArrayList;
import java.util.List;
import java.util.function.Consumer;

/**
 * A fixed run of calls that brings a new object into a known state. The state
 * is asked for on many objects that played the same calls, because one object
 * may be used for 512 calls only.
 */
final class Scene {
    interface Call {
        long on(ForkedPages x);
    }

    private record Probe(String name, Call call) {
    }

    private static final int QUESTIONS_AN_OBJECT = 400;
    private static final int[] PAGES_TO_TRY = {0, 1, 2, 3, 4, 5, 16, 17, 63};
    private static final List<Probe> QUESTIONS = questions();
    private static final List<Probe> DEEDS = deeds();

    /** Nothing has been called yet. */
    static final Scene NEW = new Scene(x -> { });

    /** Processes 0 .. 2 run; mappings of every kind, one frame free. Process 3 has ended, 4 never ran. */
    static final Scene MIXED = new Scene(Scene::mixed);

    /** Processes 0 .. 2 run and no frame is free; 0 and 1 share private pages 0, 2, 3 and common page 1. */
    static final Scene BRIM = new Scene(Scene::brim);

    /** Five processes without pages, 19 frames free. */
    static final Scene FIVE = new Scene(x -> spawn(x, 5));

    /** Five processes and no frame free. */
    static final Scene FIVE_BRIM = new Scene(Scene::fiveBrim);

    private final Consumer<ForkedPages> opening;
    private long[] untouched;

    Scene(Consumer<ForkedPages> opening) {
        this.opening = opening;
    }

    ForkedPages open() {
        ForkedPages x = new ForkedPages();
        opening.accept(x);
        return x;
    }

    /** The call is refused with the code, when it comes again too, and changes nothing. */
    void refuses(Call call, long code) {
        ForkedPages x = open();
        Check.due(call.on(x), code);
        Check.due(call.on(x), code);
        isLeftAloneBy(call);
    }

    /** Whatever can be asked or done next is answered as if the call had not been. */
    void isLeftAloneBy(Call call) {
        if (untouched == null) {
            untouched = answers(x -> 0);
        }
        long[] touched = answers(call);
        for (int i = 0; i < touched.length; i++) {
            if (touched[i] != untouched[i]) {
                System.out.print(name(i) + " after a call that changes nothing: ");
                Check.due(touched[i], untouched[i]);
                return;
            }
        }
        Check.due(0, 0);
    }

    private static String name(int probe) {
        return probe < QUESTIONS.size() ? QUESTIONS.get(probe).name : DEEDS.get(probe - QUESTIONS.size()).name;
    }

    private long[] answers(Call call) {
        long[] answers = new long[QUESTIONS.size() + DEEDS.size()];
        ForkedPages x = null;
        for (int i = 0; i < answers.length; i++) {
            boolean deed = i >= QUESTIONS.size();
            if (deed || i % QUESTIONS_AN_OBJECT == 0) {
                x = open();
                call.on(x);
            }
            answers[i] = (deed ? DEEDS.get(i - QUESTIONS.size()) : QUESTIONS.get(i)).call.on(x);
        }
        return answers;
    }

    private static List<Probe> questions() {
        List<Probe> all = new ArrayList<>();
        all.add(new Probe("running()", ForkedPages::running));
        all.add(new Probe("free()", ForkedPages::free));
        all.add(new Probe("faults(true)", x -> x.faults(true)));
        all.add(new Probe("faults(false)", x -> x.faults(false)));
        for (int number = 0; number < 5; number++) {
            int p = number;
            all.add(new Probe("tables(" + p + ")", x -> x.tables(p)));
            all.add(new Probe("pages(" + p + ")", x -> x.pages(p)));
            for (int address = 0; address < 256; address++) {
                int a = address;
                all.add(new Probe("read(" + p + ", " + a + ")", x -> x.read(p, a)));
            }
            for (int page = 0; page < 64; page++) {
                addQuestionsOfPage(all, p, page);
            }
        }
        return all;
    }

    private static void addQuestionsOfPage(List<Probe> all, int p, int page) {
        String of = "(" + p + ", " + page;
        all.add(new Probe("count" + of + ")", x -> x.count(p, page)));
        all.add(new Probe("mapping" + of + ")", x -> x.mapping(p, page)));
        for (int number = 0; number < 5; number++) {
            int q = number;
            all.add(new Probe("twin" + of + ", " + q + ", -1)", x -> x.twin(p, page, q, -1)));
        }
    }

    /** Calls that change something: they would find out what is kept where no question looks. */
    private static List<Probe> deeds() {
        List<Probe> all = new ArrayList<>();
        all.add(new Probe("spawn()", ForkedPages::spawn));
        for (int number = 0; number < 5; number++) {
            int p = number;
            all.add(new Probe("fork(" + p + ")", x -> x.fork(p)));
            all.add(new Probe("exit(" + p + ")", x -> x.exit(p)));
            for (int page : PAGES_TO_TRY) {
                String of = "(" + p + ", " + page;
                all.add(new Probe("map" + of + ", false)", x -> x.map(p, page, false)));
                all.add(new Probe("unmap" + of + ")", x -> x.unmap(p, page)));
                all.add(new Probe("write" + of + " * 4, 77)", x -> x.write(p, page * 4, 77)));
                all.add(new Probe("attach" + of + ", 0, 5)", x -> x.attach(p, page, 0, 5)));
            }
        }
        return all;
    }

    static void spawn(ForkedPages x, int times) {
        for (int i = 0; i < times; i++) {
            x.spawn();
        }
    }

    /** Starts a process and gives it so many pages that as many frames are left as told. */
    static int fill(ForkedPages x, int left) {
        int filler = x.spawn();
        for (int page = 0; page < 16; page += 4) {
            x.map(filler, page, false);
        }
        for (int page = 0; page < 16 && x.free() > left; page++) {
            // Its tables stand, so each of these pages takes one frame.
            x.map(filler, page, false);
        }
        Check.due(x.free(), left);
        return filler;
    }

    /** Gives every word of a page a value that no other word has. */
    static void fillWords(ForkedPages x, int process, int page) {
        for (int word = 0; word < 4; word++) {
            x.write(process, page * 4 + word, page * 100 + word + 1);
        }
    }

    private static void endProcessThree(ForkedPages x) {
        spawn(x, 4);
        x.map(3, 0, true);
        x.map(3, 9, false);
        fillWords(x, 3, 9);
        x.exit(3);
        x.exit(1);
    }

    private static void mixed(ForkedPages x) {
        endProcessThree(x);
        for (int page : new int[] {0, 1, 5, 16, 63}) {
            x.map(0, page, page == 5 || page == 16);
            fillWords(x, 0, page);
        }
        x.protect(0, 16, false);
        x.protect(0, 63, false);
        x.fork(0);
        x.write(1, 0, -7);
        Check.due(x.free(), 1);
    }

    private static void shareFourPages(ForkedPages x) {
        for (int page = 0; page < 4; page++) {
            x.map(0, page, page == 1);
            fillWords(x, 0, page);
        }
        x.protect(0, 3, false);
        x.fork(0);
    }

    private static void brim(ForkedPages x) {
        endProcessThree(x);
        x.exit(2);
        shareFourPages(x);
        fill(x, 0);
    }

    private static void fiveBrim(ForkedPages x) {
        x.spawn();
        shareFourPages(x);
        fill(x, 2);
        spawn(x, 2);
    }
}
