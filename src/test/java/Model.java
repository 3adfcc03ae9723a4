import java.util.ArrayList;
import java.util.Comparator;
import java.util.HashMap;
import java.util.List;
import java.util.Map;
import java.util.NoSuchElementException;
import java.util.Optional;
import java.util.TreeMap;
import java.util.TreeSet;

/** The document said once more, with the library's collections and exceptions, to be held against the class. */
final class Model {
    /** The power fails in the midst of a call. */
    private static final class Dark extends RuntimeException {
        private static final long serialVersionUID = 1L;
    }

    /** A page; since is null while it is clean. */
    private static final class Page {
        int place;
        int value;
        int pins;
        Integer since;
        int used;
        int came;
        boolean recent;
        boolean ahead;
    }

    /** What a page held ahead of the transaction; null stands for no frame. */
    private record Held(int value, Integer since) {
    }

    private record Image(int device, int[] values, int[] sums) {
    }

    private interface Deed {
        int make();
    }

    private final List<Integer> homes = new ArrayList<>();
    private final Map<Integer, Integer> lastRead = new HashMap<>();
    private final int[] values = new int[128];
    private final int[] sums = new int[128];
    private final int[] wear = new int[128];
    private final TreeMap<Integer, Page> frames = new TreeMap<>();
    private final TreeMap<Integer, Integer> log = new TreeMap<>();
    private final List<Image> images = new ArrayList<>();
    private final List<Integer> trace = new ArrayList<>();
    private final long[] bills = new long[3];
    private Map<Integer, Optional<Held>> work;
    private int begun;
    private int frameCount = 8;
    private int hand;
    private char policy = 'l';
    private int limit = 4;
    private int window;
    private int tenant;
    private int arm;
    private int now;
    private boolean power = true;
    private int told;
    private int hits;
    private int misses;
    private int waits;
    private int ahead;
    private int useful;

    // ---- what is asked first

    private static void range(int n, int from, int to) {
        if (n < from || n > to) {
            throw new IllegalArgumentException();
        }
    }

    private static void device(int device) {
        if (device != 0 && device != 1) {
            throw new IndexOutOfBoundsException();
        }
    }

    private int place(int file, int block) {
        if (file < 0 || file >= homes.size() || block < 0 || block > 15) {
            throw new IndexOutOfBoundsException();
        }
        return homes.get(file) + block;
    }

    private void unsupportedIf(boolean is) {
        if (is) {
            throw new UnsupportedOperationException();
        }
    }

    private void stateIf(boolean is) {
        if (is) {
            throw new IllegalStateException();
        }
    }

    /** A call in which the power may fail. */
    private int powered(Deed deed) {
        try {
            return deed.make();
        } catch (Dark dark) {
            return -1;
        }
    }

    // ---- places

    private void pay(int place) {
        bills[tenant] += place < 64 ? 1 + Math.abs(place - arm) : 1;
        arm = place < 64 ? place : arm;
    }

    private void lightsOut() {
        power = false;
        frames.clear();
        work = null;
    }

    private void aheadOfWrite() {
        if (told > 0 && --told == 0) {
            lightsOut();
            throw new Dark();
        }
    }

    private void put(int place, int value) {
        pay(place);
        values[place] = value;
        sums[place] = value;
        wear[place]++;
    }

    private boolean damaged(int place) {
        return values[place] != sums[place];
    }

    // ---- frames

    private Map.Entry<Integer, Page> entry(int place) {
        return frames.entrySet().stream().filter(e -> e.getValue().place == place).findFirst().orElse(null);
    }

    private Page page(int place) {
        Map.Entry<Integer, Page> entry = entry(place);
        return entry == null ? null : entry.getValue();
    }

    private boolean ofWork(Page page) {
        return work != null && work.containsKey(page.place);
    }

    private Integer freeFrame() {
        for (int i = 0; i < frameCount; i++) {
            if (!frames.containsKey(i)) {
                return i;
            }
        }
        return null;
    }

    private TreeSet<Integer> evictable() {
        TreeSet<Integer> set = new TreeSet<>();
        frames.forEach((i, page) -> {
            if (page.pins == 0 && !ofWork(page)) {
                set.add(i);
            }
        });
        return set;
    }

    private int pick(TreeSet<Integer> candidates) {
        if (policy == 'l') {
            return candidates.stream().min(Comparator.comparing(i -> frames.get(i).used)).orElseThrow();
        }
        if (policy == 'f') {
            return candidates.stream().min(Comparator.comparing(i -> frames.get(i).came)).orElseThrow();
        }
        while (true) {
            int at = hand;
            hand = (hand + 1) % frameCount;
            if (candidates.contains(at)) {
                if (!frames.get(at).recent) {
                    return at;
                }
                frames.get(at).recent = false;
            }
        }
    }

    private void flush(Page page) {
        aheadOfWrite();
        put(page.place, page.value);
        page.since = null;
        log.remove(page.place);
    }

    private int room() {
        Integer free = freeFrame();
        if (free != null) {
            return free;
        }
        int at = pick(evictable());
        evict(at);
        return at;
    }

    private void evict(int at) {
        if (frames.get(at).since != null) {
            flush(frames.get(at));
        }
        frames.remove(at);
    }

    private void use(Page page) {
        page.used = ++now;
        page.recent = true;
    }

    private Page come(int at, int place, int value) {
        Page page = new Page();
        page.place = place;
        page.value = value;
        frames.put(at, page);
        use(page);
        page.came = now;
        return page;
    }

    private List<Page> plainDirty() {
        List<Page> list = new ArrayList<>();
        for (Page page : frames.values()) {
            if (page.since != null && !ofWork(page)) {
                list.add(page);
            }
        }
        list.sort(Comparator.comparing(page -> page.place));
        return list;
    }

    private void access(int file, int block, Page page) {
        trace.add(file * 16 + block);
        if (trace.size() > 100) {
            trace.remove(0);
        }
        if (page == null) {
            misses++;
            return;
        }
        hits++;
        useful += page.ahead ? 1 : 0;
        page.ahead = false;
    }

    // ---- set-up

    int addFile(int device) {
        device(device);
        long there = homes.stream().filter(home -> home / 64 == device).count();
        stateIf(there == 4);
        homes.add(device * 64 + 16 * (int) there);
        return homes.size() - 1;
    }

    int setFrames(int count) {
        range(count, 1, 16);
        unsupportedIf(!power);
        stateIf(!evictable().containsAll(frames.tailMap(count).keySet()));
        return powered(() -> {
            while (!frames.isEmpty() && frames.lastKey() >= count) {
                evict(frames.lastKey());
            }
            int before = frameCount;
            frameCount = count;
            hand = hand >= count ? 0 : hand;
            return before;
        });
    }

    char setPolicy(char to) {
        if ("lfc".indexOf(to) < 0) {
            throw new IllegalArgumentException();
        }
        char before = policy;
        policy = to;
        return before;
    }

    int setLimit(int to) {
        range(to, 1, 16);
        int before = limit;
        limit = to;
        return before;
    }

    int setWindow(int to) {
        range(to, 0, 4);
        int before = window;
        window = to;
        return before;
    }

    int setTenant(int to) {
        range(to, 0, 2);
        int before = tenant;
        tenant = to;
        return before;
    }

    // ---- accesses

    int read(int file, int block) {
        int place = place(file, block);
        unsupportedIf(!power);
        Page there = page(place);
        stateIf(there == null && (freeFrame() == null && evictable().isEmpty() || damaged(place)));
        return powered(() -> {
            access(file, block, there);
            boolean next = lastRead.containsKey(file) && lastRead.get(file) == block - 1;
            lastRead.put(file, block);
            if (there != null) {
                use(there);
                return there.value;
            }
            int at = room();
            pay(place);
            come(at, place, values[place]);
            for (int i = 1; next && i <= window && block + i <= 15; i++) {
                next = page(place + i) != null || comesAhead(place + i, at);
            }
            return values[place];
        });
    }

    private boolean comesAhead(int place, int aside) {
        Integer at = freeFrame();
        TreeSet<Integer> candidates = evictable();
        candidates.remove(aside);
        candidates.removeIf(i -> frames.get(i).since != null);
        if (damaged(place) || at == null && candidates.isEmpty()) {
            return false;
        }
        int to = at == null ? pick(candidates) : at;
        pay(place);
        come(to, place, values[place]).ahead = true;
        ahead++;
        return true;
    }

    int write(int file, int block, int value) {
        int place = place(file, block);
        range(value, 0, 9999);
        unsupportedIf(!power);
        Page there = page(place);
        stateIf(there == null && freeFrame() == null && evictable().isEmpty());
        stateIf(work != null && work.size() == 6 && !work.containsKey(place));
        return powered(() -> {
            access(file, block, there);
            Page page = there;
            if (work != null && there != null) {
                work.putIfAbsent(place, Optional.of(new Held(there.value, there.since)));
            }
            if (there == null) {
                page = come(room(), place, value);
                if (work != null) {
                    work.put(place, Optional.empty());
                }
            }
            use(page);
            page.value = value;
            page.since = page.since == null ? Integer.valueOf(now) : page.since;
            int waited = 0;
            while (plainDirty().size() > limit) {
                flush(plainDirty().stream().min(Comparator.comparing(p -> p.since)).orElseThrow());
                waits++;
                waited++;
            }
            return waited;
        });
    }

    int pin(int file, int block) {
        Page page = page(place(file, block));
        if (page == null) {
            throw new NoSuchElementException();
        }
        return ++page.pins;
    }

    int unpin(int file, int block) {
        Page page = page(place(file, block));
        if (page == null || page.pins == 0) {
            throw new NoSuchElementException();
        }
        return --page.pins;
    }

    int frameOf(int file, int block) {
        Map.Entry<Integer, Page> entry = entry(place(file, block));
        return entry == null ? -1 : entry.getKey();
    }

    boolean isDirty(int file, int block) {
        Page page = page(place(file, block));
        return page != null && page.since != null;
    }

    int onPlace(int file, int block) {
        return values[place(file, block)];
    }

    // ---- transactions, syncs

    int begin() {
        unsupportedIf(!power || work != null);
        work = new HashMap<>();
        return ++begun;
    }

    int commit() {
        unsupportedIf(!power || work == null);
        return powered(() -> {
            TreeSet<Integer> would = new TreeSet<>(log.keySet());
            would.addAll(work.keySet());
            if (would.size() > 10) {
                plainDirty().forEach(this::flush);
            }
            aheadOfWrite();
            bills[tenant]++;
            work.keySet().forEach(place -> log.put(place, page(place).value));
            work = null;
            return log.size();
        });
    }

    int abort() {
        unsupportedIf(!power || work == null);
        Map<Integer, Optional<Held>> written = work;
        work = null;
        written.forEach((place, held) -> {
            Page page = page(place);
            if (held.isEmpty()) {
                frames.values().remove(page);
            } else {
                page.value = held.get().value();
                page.since = held.get().since();
            }
        });
        return written.size();
    }

    int countWritten() {
        return work == null ? 0 : work.size();
    }

    int checkpoint() {
        unsupportedIf(!power);
        return powered(() -> {
            List<Page> all = plainDirty();
            all.forEach(this::flush);
            return all.size();
        });
    }

    int sync(int file) {
        int home = place(file, 0);
        unsupportedIf(!power);
        return powered(() -> {
            List<Page> all = plainDirty();
            all.removeIf(page -> page.place / 16 != home / 16);
            int from = arm;
            if (home < 64) {
                all.sort(Comparator.comparing((Page page) -> page.place < from).thenComparing(page -> page.place));
            }
            all.forEach(this::flush);
            return all.size();
        });
    }

    int countLog() {
        return log.size();
    }

    // ---- power, damage, images

    int failAt(int n) {
        range(n, 0, 99);
        unsupportedIf(!power);
        int before = told;
        told = n;
        return before;
    }

    int fail() {
        unsupportedIf(!power);
        int lost = countDirty();
        lightsOut();
        return lost;
    }

    int powerOn() {
        unsupportedIf(power);
        power = true;
        int count = log.size();
        log.forEach(this::put);
        log.clear();
        return count;
    }

    boolean hasPower() {
        return power;
    }

    int damage(int file, int block, int value) {
        int place = place(file, block);
        range(value, 0, 9999);
        unsupportedIf(values[place] == value);
        int before = values[place];
        values[place] = value;
        return before;
    }

    int scrub(int device) {
        device(device);
        int count = 0;
        for (int place = 64 * device; place < 64 * device + 64; place++) {
            count += damaged(place) ? 1 : 0;
        }
        return count;
    }

    int keepImage(int device) {
        device(device);
        stateIf(images.size() == 4);
        images.add(new Image(device, values.clone(), sums.clone()));
        return images.size() - 1;
    }

    int layBack(int image, int device) {
        if (image < 0 || image >= images.size()) {
            throw new IndexOutOfBoundsException();
        }
        device(device);
        Image kept = images.get(image);
        unsupportedIf(kept.device() != device || work != null);
        frames.values().removeIf(page -> page.place / 64 == device);
        log.keySet().removeIf(place -> place / 64 == device);
        int others = 0;
        for (int place = 64 * device; place < 64 * device + 64; place++) {
            others += values[place] == kept.values()[place] ? 0 : 1;
            values[place] = kept.values()[place];
            sums[place] = kept.sums()[place];
        }
        return others;
    }

    // ---- counts

    int countPages() {
        return frames.size();
    }

    int countDirty() {
        return (int) frames.values().stream().filter(page -> page.since != null).count();
    }

    int getArm() {
        return arm;
    }

    int countHits() {
        return hits;
    }

    int countMisses() {
        return misses;
    }

    int countWaits() {
        return waits;
    }

    int countAhead() {
        return ahead;
    }

    int countUseful() {
        return useful;
    }

    int getWear(int place) {
        range(place, 0, 63);
        return wear[64 + place];
    }

    long getBill(int tenant) {
        range(tenant, 0, 2);
        return bills[tenant];
    }

    int missesBy(char by, int count) {
        if ("lfcb".indexOf(by) < 0) {
            throw new IllegalArgumentException();
        }
        range(count, 1, 16);
        return by == 'b' ? bestMisses(count) : missesInFreshHouse(by, count);
    }

    /** Goes through the trace in a model of its own, with reads of files that are laid as they are numbered. */
    private int missesInFreshHouse(char by, int count) {
        Model fresh = new Model();
        for (int file = 0; file < 8; file++) {
            fresh.addFile(file % 2);
        }
        fresh.setFrames(count);
        fresh.setPolicy(by);
        trace.forEach(page -> fresh.read(page / 16, page % 16));
        return fresh.countMisses();
    }

    private int bestMisses(int count) {
        TreeSet<Integer> in = new TreeSet<>();
        int missed = 0;
        for (int i = 0; i < trace.size(); i++) {
            int page = trace.get(i);
            if (in.contains(page)) {
                continue;
            }
            missed++;
            if (in.size() == count) {
                List<Integer> rest = trace.subList(i, trace.size());
                in.remove(in.stream().max(Comparator.comparing((Integer p) -> rest.contains(p) ? rest.indexOf(p) : 999)
                        .thenComparing(Comparator.reverseOrder())).orElseThrow());
            }
            in.add(page);
        }
        return missed;
    }

    int framesFor(int most) {
        range(most, 0, 100);
        int count = 1;
        while (count <= 16 && bestMisses(count) > most) {
            count++;
        }
        return count;
    }

    // ---- figures

    private void arithmeticIfNone() {
        if (hits + misses == 0) {
            throw new ArithmeticException();
        }
    }

    float getHitShare() {
        arithmeticIfNone();
        return (float) hits / (float) (hits + misses);
    }

    int getHitBits() {
        return Float.floatToIntBits(getHitShare());
    }

    double getMeanCost() {
        arithmeticIfNone();
        return (double) (bills[0] + bills[1] + bills[2]) / (double) (hits + misses);
    }

    long checksum() {
        List<Long> row = new ArrayList<>();
        for (int value : values) {
            row.add((long) value);
        }
        for (int i = 0; i < frameCount; i++) {
            row.add(frames.containsKey(i) ? frames.get(i).value : -1L);
        }
        row.addAll(List.of((long) hits, (long) misses, (long) waits, (long) arm, (long) log.size()));
        row.addAll(List.of(bills[0], bills[1], bills[2]));
        long sum = 7;
        for (long number : row) {
            sum = sum * 31 + number;
        }
        return sum;
    }

    boolean isSound() {
        for (Page page : frames.values()) {
            if (page.since == null && (!damaged(page.place) && page.value != values[page.place]
                    || log.containsKey(page.place))) {
                return false;
            }
        }
        return true;
    }
}
