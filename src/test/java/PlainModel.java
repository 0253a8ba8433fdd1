import java.util.ArrayList;
import java.util.List;
import java.util.Map;
import java.util.TreeMap;
import java.util.TreeSet;

/**
 * The document's words as plainly as the Java library lets them be written:
 * nothing is kept that the mappings tell already, so that it can't go wrong
 * in the way in which ForkedPages could.
 */
final class PlainModel {
    private static final class Mapping {
        int[] frame;
        boolean common;
        boolean writable = true;
        boolean marked;
    }

    private final List<TreeMap<Integer, Mapping>> processes = new ArrayList<>();
    private int faults;
    private int copies;

    PlainModel() {
        for (int i = 0; i < 5; i++) {
            processes.add(null);
        }
    }

    private TreeMap<Integer, Mapping> of(int process) {
        return process < 0 || process > 4 ? null : processes.get(process);
    }

    private Mapping at(int process, int page) {
        return of(process).get(page);
    }

    private static boolean bad(int page) {
        return page < 0 || page > 63;
    }

    private static int tablesOf(Iterable<Integer> pages) {
        TreeSet<Integer> middle = new TreeSet<>();
        TreeSet<Integer> lowest = new TreeSet<>();
        for (int page : pages) {
            middle.add(page / 16);
            lowest.add(page / 4);
        }
        return 1 + middle.size() + lowest.size();
    }

    private int more(int process, int page) {
        TreeSet<Integer> pages = new TreeSet<>(of(process).keySet());
        int before = tablesOf(pages);
        pages.add(page);
        return tablesOf(pages) - before;
    }

    private int leads(int[] frame) {
        int sum = 0;
        for (TreeMap<Integer, Mapping> process : processes) {
            if (process != null) {
                for (Mapping mapping : process.values()) {
                    sum += mapping.frame == frame ? 1 : 0;
                }
            }
        }
        return sum;
    }

    int free() {
        List<int[]> data = new ArrayList<>();
        int tables = 0;
        for (TreeMap<Integer, Mapping> process : processes) {
            if (process != null) {
                tables += tablesOf(process.keySet());
                for (Mapping mapping : process.values()) {
                    if (data.stream().noneMatch(frame -> frame == mapping.frame)) {
                        data.add(mapping.frame);
                    }
                }
            }
        }
        return 24 - tables - data.size();
    }

    int spawn() {
        int number = processes.indexOf(null);
        if (number < 0) return -7;
        if (free() < 1) return -8;
        processes.set(number, new TreeMap<>());
        return number;
    }

    int fork(int process) {
        if (of(process) == null) return -1;
        int number = processes.indexOf(null);
        if (number < 0) return -7;
        if (free() < tablesOf(of(process).keySet())) return -8;
        TreeMap<Integer, Mapping> child = new TreeMap<>();
        for (Map.Entry<Integer, Mapping> entry : of(process).entrySet()) {
            Mapping old = entry.getValue();
            Mapping fresh = new Mapping();
            fresh.frame = old.frame;
            fresh.common = old.common;
            fresh.writable = old.writable;
            if (!old.common) {
                old.marked = true;
                fresh.marked = true;
            }
            child.put(entry.getKey(), fresh);
        }
        processes.set(number, child);
        return number;
    }

    int exit(int process) {
        if (of(process) == null) return -1;
        int before = free();
        processes.set(process, null);
        return free() - before;
    }

    int map(int process, int page, boolean common) {
        if (of(process) == null) return -1;
        if (bad(page)) return -2;
        if (at(process, page) != null) return -4;
        int needed = more(process, page) + 1;
        if (free() < needed) return -8;
        Mapping fresh = new Mapping();
        fresh.frame = new int[4];
        fresh.common = common;
        of(process).put(page, fresh);
        return needed;
    }

    int attach(int process, int to, int other, int from) {
        if (of(process) == null || of(other) == null) return -1;
        if (bad(to) || bad(from)) return -2;
        if (at(other, from) == null) return -3;
        if (at(process, to) != null) return -4;
        if (!at(other, from).common) return -6;
        int needed = more(process, to);
        if (free() < needed) return -8;
        Mapping fresh = new Mapping();
        fresh.frame = at(other, from).frame;
        fresh.common = true;
        fresh.writable = at(other, from).writable;
        of(process).put(to, fresh);
        return needed;
    }

    private int refused(int process, int page) {
        if (of(process) == null) return -1;
        if (bad(page)) return -2;
        return at(process, page) == null ? -3 : 0;
    }

    int unmap(int process, int page) {
        if (refused(process, page) < 0) return refused(process, page);
        int before = free();
        of(process).remove(page);
        return free() - before;
    }

    int protect(int process, int page, boolean writable) {
        if (refused(process, page) < 0) return refused(process, page);
        boolean before = at(process, page).writable;
        at(process, page).writable = writable;
        return before == writable ? 0 : 1;
    }

    int write(int process, int address, int word) {
        int page = Math.floorDiv(address, 4);
        if (refused(process, page) < 0) return refused(process, page);
        Mapping mapping = at(process, page);
        if (!mapping.writable) return -5;
        int answer = 0;
        if (mapping.marked) {
            boolean copy = leads(mapping.frame) > 1;
            if (copy && free() == 0) return -8;
            if (copy) mapping.frame = mapping.frame.clone();
            mapping.marked = false;
            faults++;
            copies += copy ? 1 : 0;
            answer = copy ? 2 : 1;
        }
        mapping.frame[address % 4] = word;
        return answer;
    }

    long read(int process, int address) {
        int page = Math.floorDiv(address, 4);
        return refused(process, page) < 0 ? 1099511627776L : at(process, page).frame[address % 4];
    }

    int tables(int process) {
        return of(process) == null ? -1 : tablesOf(of(process).keySet());
    }

    int pages(int process) {
        return of(process) == null ? -1 : of(process).size();
    }

    int count(int process, int page) {
        if (refused(process, page) < 0) return refused(process, page);
        return leads(at(process, page).frame);
    }

    int mapping(int process, int page) {
        if (refused(process, page) < 0) return refused(process, page);
        Mapping mapping = at(process, page);
        return (mapping.writable ? 1 : 0) + (mapping.common ? 2 : 0) + (mapping.marked ? 4 : 0);
    }

    int twin(int process, int page, int other, int after) {
        if (of(process) == null || of(other) == null) return -1;
        if (refused(process, page) < 0) return refused(process, page);
        for (Map.Entry<Integer, Mapping> entry : of(other).entrySet()) {
            if (entry.getKey() > after && entry.getValue().frame == at(process, page).frame) return entry.getKey();
        }
        return 64;
    }

    int running() {
        int sum = 0;
        for (int process = 0; process < 5; process++) {
            sum += of(process) == null ? 0 : 1 << process;
        }
        return sum;
    }

    int faults(boolean onlyCopies) {
        return onlyCopies ? copies : faults;
    }
}
