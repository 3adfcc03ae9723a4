import java.util.NoSuchElementException;

/**
 * A house of frames between programs and two devices: pages, policies, transactions, power, images and bills.
 *
 * <p>Inside, a block is known by its spot, that is 64 times its device plus its place, so that a loop over rising
 * spots goes by rising devices and places. The trace alone knows blocks by file and block, as its ties go by those.
 */
public final class Writeback {
    private static final int DEVICES = 2;
    private static final int FLASH = 1;
    private static final int PLACES = 64;
    private static final int SPOTS = 128;
    private static final int BLOCKS = 16;
    private static final int FILES = 8;
    private static final int FILES_ON_DEVICE = 4;
    private static final int FRAMES = 16;
    private static final int FIRST_FRAMES = 8;
    private static final int LIMIT = 16;
    private static final int FIRST_LIMIT = 4;
    private static final int WINDOW = 4;
    private static final int TENANTS = 3;
    private static final int VALUES = 10000;
    private static final int WRITTEN = 6;
    private static final int LOGGED = 10;
    private static final int FAIL = 99;
    private static final int IMAGES = 4;
    private static final int ACCESSES = 100;
    private static final int MANTISSA = 23;
    private static final int EXPONENT_OF_ONE = 127;
    /** No frame, page, spot or aim; also the answer of a call in which the power fails. */
    private static final int NONE = -1;
    /** A block such that the one behind it is none, not even the block 0. */
    private static final int NOT_READ = -2;
    private static final char LEAST_USED = 'l';
    private static final char FIRST_COME = 'f';
    private static final char BY_HAND = 'c';
    private static final char BEST = 'b';

    private final Device[] devices;
    private final Files files;
    private final Pool pool;
    private final Log log;
    private final Work work;
    private final Trace trace;
    private final Counts counts;
    private final Image[] images;
    private int imagesKept;
    private final long[] bills;
    private char policy;
    private int limit;
    private int window;
    private int tenant;
    private boolean powered;
    private int writesLeft;

    public Writeback() {
        devices = new Device[DEVICES];
        for (int i = 0; i < DEVICES; i++) {
            devices[i] = new Device(i);
        }
        files = new Files();
        pool = new Pool(FIRST_FRAMES);
        log = new Log();
        work = new Work();
        trace = new Trace();
        counts = new Counts();
        images = new Image[IMAGES];
        bills = new long[TENANTS];
        policy = LEAST_USED;
        limit = FIRST_LIMIT;
        powered = true;
    }

    // ---- set-up

    public int addFile(int device) throws IndexOutOfBoundsException, IllegalStateException {
        Device on = deviceOf(device);
        if (on.files >= FILES_ON_DEVICE || files.count >= FILES) {
            throw new IllegalStateException("the device has all its files");
        }
        int home = device * PLACES + on.files * BLOCKS;
        on.files++;
        return files.come(home);
    }

    public int setFrames(int frames)
            throws IllegalArgumentException, UnsupportedOperationException, IllegalStateException {
        checkRange(frames, 1, FRAMES);
        checkPower();
        if (pool.holdsFastBehind(frames)) {
            throw new IllegalStateException("a page behind the frames is pinned or of the transaction");
        }
        for (int i = pool.size - 1; i >= frames; i--) {
            if (!evict(pool.frames[i])) {
                return NONE;
            }
        }
        return pool.resize(frames);
    }

    public char setPolicy(char policy) throws IllegalArgumentException {
        if (!isPolicy(policy)) {
            throw new IllegalArgumentException("no such policy");
        }
        char before = this.policy;
        this.policy = policy;
        return before;
    }

    public int setLimit(int limit) throws IllegalArgumentException {
        checkRange(limit, 1, LIMIT);
        int before = this.limit;
        this.limit = limit;
        return before;
    }

    public int setWindow(int window) throws IllegalArgumentException {
        checkRange(window, 0, WINDOW);
        int before = this.window;
        this.window = window;
        return before;
    }

    public int setTenant(int tenant) throws IllegalArgumentException {
        checkRange(tenant, 0, TENANTS - 1);
        int before = this.tenant;
        this.tenant = tenant;
        return before;
    }

    // ---- accesses

    public int read(int file, int block)
            throws IndexOutOfBoundsException, UnsupportedOperationException, IllegalStateException {
        int spot = spotOf(file, block);
        checkPower();
        int at = pool.find(spot);
        if (at < 0 && (!pool.hasRoom() || isDamaged(spot))) {
            throw new IllegalStateException("no page can be evicted, or the block is damaged");
        }
        countAccess(file, block, at);
        boolean goesOn = files.lastRead[file] + 1 == block;
        files.lastRead[file] = block;
        if (at >= 0) {
            pool.use(at);
            return pool.frames[at].value;
        }
        at = takeFrame();
        if (at < 0) {
            return NONE;
        }
        bring(at, spot);
        if (goesOn) {
            readAhead(spot, block, at);
        }
        return pool.frames[at].value;
    }

    public int write(int file, int block, int value)
            throws IndexOutOfBoundsException, IllegalArgumentException, UnsupportedOperationException,
            IllegalStateException {
        int spot = spotOf(file, block);
        checkRange(value, 0, VALUES - 1);
        checkPower();
        int at = pool.find(spot);
        if ((at < 0 && !pool.hasRoom()) || isOneTooMany(at)) {
            throw new IllegalStateException("no page can be evicted, or the transaction has written enough blocks");
        }
        countAccess(file, block, at);
        boolean fresh = at < 0;
        if (fresh) {
            at = takeFrame();
            if (at < 0) {
                return NONE;
            }
            pool.come(at, spot, value);
        } else {
            pool.use(at);
        }
        change(pool.frames[at], value, fresh);
        return waitForLimit();
    }

    public int pin(int file, int block) throws IndexOutOfBoundsException, NoSuchElementException {
        int at = pool.find(spotOf(file, block));
        if (at < 0) {
            throw new NoSuchElementException("the page is in no frame");
        }
        pool.frames[at].pins++;
        return pool.frames[at].pins;
    }

    public int unpin(int file, int block) throws IndexOutOfBoundsException, NoSuchElementException {
        int at = pool.find(spotOf(file, block));
        if (at < 0 || pool.frames[at].pins == 0) {
            throw new NoSuchElementException("the page is in no frame, or not pinned");
        }
        pool.frames[at].pins--;
        return pool.frames[at].pins;
    }

    public int frameOf(int file, int block) throws IndexOutOfBoundsException {
        return pool.find(spotOf(file, block));
    }

    public boolean isDirty(int file, int block) throws IndexOutOfBoundsException {
        int at = pool.find(spotOf(file, block));
        return at >= 0 && pool.frames[at].dirty;
    }

    public int onPlace(int file, int block) throws IndexOutOfBoundsException {
        return valueOn(spotOf(file, block));
    }

    // ---- transactions, syncs

    public int begin() throws UnsupportedOperationException {
        checkPower();
        if (work.going) {
            throw new UnsupportedOperationException("a transaction goes on");
        }
        work.going = true;
        work.begun++;
        return work.begun;
    }

    public int commit() throws UnsupportedOperationException {
        checkPower();
        checkWork();
        if (log.size + countNewToLog() > LOGGED && flushSpots(0, SPOTS) < 0) {
            return NONE;
        }
        if (!mayWrite()) {
            return NONE;
        }
        bills[tenant]++;
        for (int i = 0; i < pool.size; i++) {
            Frame frame = pool.frames[i];
            if (frame.ofWork) {
                log.keep(frame.spot, frame.value);
                frame.ofWork = false;
            }
        }
        work.end();
        return log.size;
    }

    public int abort() throws UnsupportedOperationException {
        checkPower();
        checkWork();
        int written = work.written;
        for (int i = 0; i < pool.size; i++) {
            if (pool.frames[i].ofWork) {
                pool.frames[i].goBack();
            }
        }
        work.end();
        return written;
    }

    public int countWritten() {
        return work.written;
    }

    public int checkpoint() throws UnsupportedOperationException {
        checkPower();
        return flushSpots(0, SPOTS);
    }

    public int sync(int file) throws IndexOutOfBoundsException, UnsupportedOperationException {
        int from = spotOf(file, 0);
        checkPower();
        int end = from + BLOCKS;
        // The place of the arm is below all spots of flash, so that there this goes from the file's first one up.
        int start = Math.min(end, Math.max(from, devices[0].arm));
        int ahead = flushSpots(start, end);
        if (ahead < 0) {
            return NONE;
        }
        int below = flushSpots(from, start);
        return below < 0 ? NONE : ahead + below;
    }

    public int countLog() {
        return log.size;
    }

    // ---- power, damage, images

    public int failAt(int n) throws IllegalArgumentException, UnsupportedOperationException {
        checkRange(n, 0, FAIL);
        checkPower();
        int before = writesLeft;
        writesLeft = n;
        return before;
    }

    public int fail() throws UnsupportedOperationException {
        checkPower();
        int lost = pool.dirtyPages(true);
        losePower();
        return lost;
    }

    public int powerOn() throws UnsupportedOperationException {
        if (powered) {
            throw new UnsupportedOperationException("there is power");
        }
        powered = true;
        int written = 0;
        for (int spot = 0; spot < SPOTS; spot++) {
            if (log.has[spot]) {
                writePlace(spot, log.values[spot]);
                log.forget(spot);
                written++;
            }
        }
        return written;
    }

    public boolean hasPower() {
        return powered;
    }

    public int damage(int file, int block, int value)
            throws IndexOutOfBoundsException, IllegalArgumentException, UnsupportedOperationException {
        int spot = spotOf(file, block);
        checkRange(value, 0, VALUES - 1);
        int before = valueOn(spot);
        if (before == value) {
            throw new UnsupportedOperationException("the block has that value");
        }
        devices[spot / PLACES].values[spot % PLACES] = value;
        return before;
    }

    public int scrub(int device) throws IndexOutOfBoundsException {
        return deviceOf(device).damaged();
    }

    public int keepImage(int device) throws IndexOutOfBoundsException, IllegalStateException {
        Device on = deviceOf(device);
        if (imagesKept >= IMAGES) {
            throw new IllegalStateException("all images are kept");
        }
        images[imagesKept] = new Image(device, on.values.clone(), on.sums.clone());
        imagesKept++;
        return imagesKept - 1;
    }

    public int layBack(int image, int device) throws IndexOutOfBoundsException, UnsupportedOperationException {
        Image kept = imageOf(image);
        Device on = deviceOf(device);
        if (kept.device != device || work.going) {
            throw new UnsupportedOperationException("the image is of another sort, or a transaction goes on");
        }
        int from = device * PLACES;
        pool.dropSpots(from, from + PLACES);
        for (int spot = from; spot < from + PLACES; spot++) {
            log.forget(spot);
        }
        return on.takeBack(kept.values, kept.sums);
    }

    // ---- counts

    public int countPages() {
        return pool.pages();
    }

    public int countDirty() {
        return pool.dirtyPages(true);
    }

    public int getArm() {
        return devices[0].arm;
    }

    public int countHits() {
        return counts.hits;
    }

    public int countMisses() {
        return counts.misses;
    }

    public int countWaits() {
        return counts.waits;
    }

    public int countAhead() {
        return counts.ahead;
    }

    public int countUseful() {
        return counts.useful;
    }

    public int getWear(int place) throws IllegalArgumentException {
        checkRange(place, 0, PLACES - 1);
        return devices[FLASH].wear[place];
    }

    public long getBill(int tenant) throws IllegalArgumentException {
        checkRange(tenant, 0, TENANTS - 1);
        return bills[tenant];
    }

    public int missesBy(char policy, int frames) throws IllegalArgumentException {
        if (policy != BEST && !isPolicy(policy)) {
            throw new IllegalArgumentException("no such policy");
        }
        checkRange(frames, 1, FRAMES);
        return trace.misses(policy, frames);
    }

    public int framesFor(int misses) throws IllegalArgumentException {
        checkRange(misses, 0, ACCESSES);
        for (int frames = 1; frames <= FRAMES; frames++) {
            if (trace.misses(BEST, frames) <= misses) {
                return frames;
            }
        }
        return FRAMES + 1;
    }

    // ---- figures

    public float getHitShare() throws ArithmeticException {
        checkAccesses();
        return hitShare();
    }

    public int getHitBits() throws ArithmeticException {
        checkAccesses();
        return bitsOf(hitShare());
    }

    public double getMeanCost() throws ArithmeticException {
        checkAccesses();
        long sum = 0;
        for (int i = 0; i < TENANTS; i++) {
            sum += bills[i];
        }
        return (double) sum / (double) counts.accesses();
    }

    public long checksum() {
        long sum = 7;
        for (int spot = 0; spot < SPOTS; spot++) {
            sum = 31 * sum + valueOn(spot);
        }
        for (int i = 0; i < pool.size; i++) {
            Frame frame = pool.frames[i];
            sum = 31 * sum + (frame.isFree() ? NONE : frame.value);
        }
        sum = 31 * sum + counts.hits;
        sum = 31 * sum + counts.misses;
        sum = 31 * sum + counts.waits;
        sum = 31 * sum + devices[0].arm;
        sum = 31 * sum + log.size;
        for (int i = 0; i < TENANTS; i++) {
            sum = 31 * sum + bills[i];
        }
        return sum;
    }

    public boolean isSound() {
        return pool.hasEachPageOnce() && cleanPagesAreOnPlaces() && logIsOfDirtyPages()
                && pool.pagesOfWork() == work.written && bestIsBest();
    }

    // ---- what is asked of a call ahead of anything else

    private static void checkRange(int number, int least, int most) {
        if (number < least || number > most) {
            throw new IllegalArgumentException("a number is out of range");
        }
    }

    private void checkPower() {
        if (!powered) {
            throw new UnsupportedOperationException("there is no power");
        }
    }

    private void checkWork() {
        if (!work.going) {
            throw new UnsupportedOperationException("there is no transaction");
        }
    }

    private void checkAccesses() {
        if (counts.accesses() == 0) {
            throw new ArithmeticException("there were no accesses");
        }
    }

    private Device deviceOf(int device) {
        if (device < 0 || device >= DEVICES) {
            throw new IndexOutOfBoundsException("no such device");
        }
        return devices[device];
    }

    private Image imageOf(int image) {
        if (image < 0 || image >= imagesKept || images[image] == null) {
            throw new IndexOutOfBoundsException("no such image");
        }
        return images[image];
    }

    private int spotOf(int file, int block) {
        if (file < 0 || file >= files.count || block < 0 || block >= BLOCKS) {
            throw new IndexOutOfBoundsException("no such file or block");
        }
        return files.homes[file] + block;
    }

    private static boolean isPolicy(char policy) {
        return policy == LEAST_USED || policy == FIRST_COME || policy == BY_HAND;
    }

    /** A block that the transaction has written already does not count anew. */
    private boolean isOneTooMany(int at) {
        return work.written >= WRITTEN && (at < 0 || !pool.frames[at].ofWork);
    }

    // ---- places

    private int valueOn(int spot) {
        return devices[spot / PLACES].values[spot % PLACES];
    }

    private boolean isDamaged(int spot) {
        return devices[spot / PLACES].isDamaged(spot % PLACES);
    }

    private int readPlace(int spot) {
        bills[tenant] += devices[spot / PLACES].reach(spot % PLACES);
        return valueOn(spot);
    }

    private void writePlace(int spot, int value) {
        Device device = devices[spot / PLACES];
        bills[tenant] += device.reach(spot % PLACES);
        device.put(spot % PLACES, value);
    }

    // ---- power

    /** Whether a write can be done; if the power was told to fail ahead of it, it does so here. */
    private boolean mayWrite() {
        if (writesLeft == 0) {
            return true;
        }
        writesLeft--;
        if (writesLeft > 0) {
            return true;
        }
        losePower();
        return false;
    }

    private void losePower() {
        powered = false;
        for (int i = 0; i < FRAMES; i++) {
            pool.frames[i].drop();
        }
        work.end();
    }

    // ---- pages; what answers a truth here answers false as the power fails

    private boolean flush(Frame frame) {
        if (!mayWrite()) {
            return false;
        }
        writePlace(frame.spot, frame.value);
        frame.dirty = false;
        log.forget(frame.spot);
        return true;
    }

    private boolean evict(Frame frame) {
        if (frame.dirty && !flush(frame)) {
            return false;
        }
        frame.drop();
        return true;
    }

    /** Answers a frame that is free then, none if the power fails; that there is one is asked ahead of it. */
    private int takeFrame() {
        int free = pool.lowestFree();
        if (free >= 0) {
            return free;
        }
        int at = pool.choose(policy, false, NONE);
        return at >= 0 && evict(pool.frames[at]) ? at : NONE;
    }

    private void bring(int at, int spot) {
        pool.come(at, spot, readPlace(spot));
    }

    private void readAhead(int spot, int block, int aside) {
        for (int i = 1; i <= window && block + i < BLOCKS; i++) {
            if (pool.find(spot + i) < 0 && !bringAhead(spot + i, aside)) {
                return;
            }
        }
    }

    private boolean bringAhead(int spot, int aside) {
        if (isDamaged(spot)) {
            return false;
        }
        int at = pool.lowestFree();
        if (at < 0) {
            at = pool.choose(policy, true, aside);
        }
        if (at < 0) {
            return false;
        }
        bring(at, spot);
        pool.frames[at].ahead = true;
        counts.ahead++;
        return true;
    }

    private void countAccess(int file, int block, int at) {
        trace.add(file * BLOCKS + block);
        if (at < 0) {
            counts.misses++;
            return;
        }
        counts.hits++;
        if (pool.frames[at].ahead) {
            pool.frames[at].ahead = false;
            counts.useful++;
        }
    }

    private void change(Frame frame, int value, boolean fresh) {
        if (work.going && !frame.ofWork) {
            frame.remember(fresh);
            work.written++;
        }
        frame.value = value;
        if (!frame.dirty) {
            frame.dirty = true;
            frame.since = frame.used;
        }
    }

    private int waitForLimit() {
        int waited = 0;
        for (int i = 0; i < FRAMES && pool.dirtyPages(false) > limit; i++) {
            int at = pool.longestDirty();
            if (at < 0 || !flush(pool.frames[at])) {
                return NONE;
            }
            counts.waits++;
            waited++;
        }
        return waited;
    }

    /** Flushes by rising spots and answers how many pages, none if the power fails. */
    private int flushSpots(int from, int end) {
        int flushed = 0;
        for (int spot = from; spot < end; spot++) {
            int at = pool.find(spot);
            if (at >= 0 && pool.frames[at].isPlainDirty()) {
                if (!flush(pool.frames[at])) {
                    return NONE;
                }
                flushed++;
            }
        }
        return flushed;
    }

    private int countNewToLog() {
        int fresh = 0;
        for (int i = 0; i < pool.size; i++) {
            Frame frame = pool.frames[i];
            if (frame.ofWork && !log.has[frame.spot]) {
                fresh++;
            }
        }
        return fresh;
    }

    // ---- figures

    private float hitShare() {
        int accesses = counts.accesses();
        return accesses == 0 ? 0f : (float) counts.hits / (float) accesses;
    }

    /** The library's own way to the bits is not open here; a share is 0 to 1, and doubling it is exact. */
    private static int bitsOf(float share) {
        if (share <= 0f) {
            return 0;
        }
        float rest = share;
        int exponent = EXPONENT_OF_ONE;
        for (int i = 0; i < EXPONENT_OF_ONE && rest < 1f; i++) {
            rest = rest * 2f;
            exponent--;
        }
        int mantissa = (int) ((rest - 1f) * (float) (1 << MANTISSA));
        return (exponent << MANTISSA) + mantissa;
    }

    private boolean cleanPagesAreOnPlaces() {
        for (int i = 0; i < pool.size; i++) {
            Frame frame = pool.frames[i];
            if (!frame.isFree() && !frame.dirty && !isDamaged(frame.spot) && frame.value != valueOn(frame.spot)) {
                return false;
            }
        }
        return true;
    }

    private boolean logIsOfDirtyPages() {
        for (int i = 0; i < pool.size; i++) {
            Frame frame = pool.frames[i];
            if (!frame.isFree() && !frame.dirty && log.has[frame.spot]) {
                return false;
            }
        }
        return true;
    }

    private boolean bestIsBest() {
        int best = trace.misses(BEST, pool.size);
        return best <= trace.misses(LEAST_USED, pool.size)
                && best <= trace.misses(FIRST_COME, pool.size)
                && best <= trace.misses(BY_HAND, pool.size);
    }

    /** A device: a block is damaged if its value is not its sum, that is the value written there last. */
    private static final class Device {
        final boolean hasArm;
        final int[] values = new int[PLACES];
        final int[] sums = new int[PLACES];
        final int[] wear = new int[PLACES];
        int arm;
        int files;

        Device(int number) {
            hasArm = number != FLASH;
        }

        /** Goes to a place and answers what it costs to read or write there. */
        int reach(int place) {
            if (!hasArm) {
                return 1;
            }
            int way = Math.abs(place - arm);
            arm = place;
            return way + 1;
        }

        void put(int place, int value) {
            values[place] = value;
            sums[place] = value;
            wear[place]++;
        }

        boolean isDamaged(int place) {
            return values[place] != sums[place];
        }

        int damaged() {
            int count = 0;
            for (int place = 0; place < PLACES; place++) {
                if (isDamaged(place)) {
                    count++;
                }
            }
            return count;
        }

        /** Answers how many values are others by that; an image is laid, not written, so nothing wears. */
        int takeBack(int[] oldValues, int[] oldSums) {
            int count = 0;
            for (int place = 0; place < PLACES; place++) {
                if (values[place] != oldValues[place]) {
                    count++;
                }
                values[place] = oldValues[place];
                sums[place] = oldSums[place];
            }
            return count;
        }
    }

    /** What was kept of a device. */
    private static final class Image {
        final int device;
        final int[] values;
        final int[] sums;

        Image(int device, int[] values, int[] sums) {
            this.device = device;
            this.values = values;
            this.sums = sums;
        }
    }

    /** The files: the spot of the block 0 of each, and the block that was read last. */
    private static final class Files {
        final int[] homes = new int[FILES];
        final int[] lastRead = new int[FILES];
        int count;

        int come(int home) {
            if (count < FILES) {
                homes[count] = home;
                lastRead[count] = NOT_READ;
                count++;
            }
            return count - 1;
        }
    }

    /** The last committed value of each block that is not on its place yet. */
    private static final class Log {
        final boolean[] has = new boolean[SPOTS];
        final int[] values = new int[SPOTS];
        int size;

        void keep(int spot, int value) {
            if (!has[spot]) {
                has[spot] = true;
                size++;
            }
            values[spot] = value;
        }

        void forget(int spot) {
            if (has[spot]) {
                has[spot] = false;
                size--;
            }
        }
    }

    /** The transaction; its pages bear a mark, so that their number here can be held against them. */
    private static final class Work {
        boolean going;
        int begun;
        int written;

        void end() {
            going = false;
            written = 0;
        }
    }

    private static final class Counts {
        int hits;
        int misses;
        int waits;
        int ahead;
        int useful;

        int accesses() {
            return hits + misses;
        }
    }

    /** A frame with its page, free if that has no spot. */
    private static final class Frame {
        int spot = NONE;
        int value;
        int pins;
        boolean dirty;
        int since;
        int used;
        int came;
        boolean usedSinceHand;
        boolean ahead;
        boolean ofWork;
        boolean fresh;
        int oldValue;
        boolean oldDirty;

        boolean isFree() {
            return spot < 0;
        }

        boolean isPlainDirty() {
            return dirty && !ofWork;
        }

        void drop() {
            spot = NONE;
            pins = 0;
            dirty = false;
            ahead = false;
            ofWork = false;
        }

        /**
         * Keeps what an abort brings back, as the transaction writes the page for the first time. Since when it is
         * dirty needs no keeping: if it is so by now, the transaction leaves that as it is.
         */
        void remember(boolean isFresh) {
            ofWork = true;
            fresh = isFresh;
            oldValue = value;
            oldDirty = dirty;
        }

        void goBack() {
            if (fresh) {
                drop();
                return;
            }
            ofWork = false;
            value = oldValue;
            dirty = oldDirty;
        }
    }

    /** Frames with a hand and a time of their own; the trace goes through a pool, too. */
    private static final class Pool {
        final Frame[] frames = new Frame[FRAMES];
        int size;
        int hand;
        int time;

        Pool(int first) {
            for (int i = 0; i < FRAMES; i++) {
                frames[i] = new Frame();
            }
            size = first;
        }

        int resize(int frameCount) {
            int before = size;
            size = frameCount;
            if (hand >= size) {
                hand = 0;
            }
            return before;
        }

        void startAnew(int frameCount) {
            dropSpots(0, SPOTS);
            hand = 0;
            time = 0;
            size = frameCount;
        }

        int find(int spot) {
            for (int i = 0; i < size; i++) {
                if (frames[i].spot == spot) {
                    return i;
                }
            }
            return NONE;
        }

        int lowestFree() {
            return find(NONE);
        }

        boolean hasRoom() {
            return lowestFree() >= 0 || hasEvictable(false, NONE);
        }

        void use(int at) {
            time++;
            frames[at].used = time;
            frames[at].usedSinceHand = true;
        }

        void come(int at, int spot, int value) {
            Frame frame = frames[at];
            frame.drop();
            frame.spot = spot;
            frame.value = value;
            use(at);
            frame.came = frame.used;
        }

        void dropSpots(int from, int end) {
            for (int i = 0; i < FRAMES; i++) {
                if (frames[i].spot >= from && frames[i].spot < end) {
                    frames[i].drop();
                }
            }
        }

        boolean holdsFastBehind(int frameCount) {
            for (int i = frameCount; i < size; i++) {
                if (frames[i].pins > 0 || frames[i].ofWork) {
                    return true;
                }
            }
            return false;
        }

        boolean canGo(int at, boolean cleanAlone, int aside) {
            Frame frame = frames[at];
            return frame.spot >= 0 && frame.pins == 0 && !frame.ofWork && at != aside
                    && !(cleanAlone && frame.dirty);
        }

        boolean hasEvictable(boolean cleanAlone, int aside) {
            for (int i = 0; i < size; i++) {
                if (canGo(i, cleanAlone, aside)) {
                    return true;
                }
            }
            return false;
        }

        /** Answers the frame whose page goes, by a policy; none if no page can go, and then the hand stays. */
        int choose(char policy, boolean cleanAlone, int aside) {
            if (!hasEvictable(cleanAlone, aside)) {
                return NONE;
            }
            return policy == BY_HAND ? sweep(cleanAlone, aside) : oldest(policy, cleanAlone, aside);
        }

        int oldest(char policy, boolean cleanAlone, int aside) {
            int best = NONE;
            int bestTime = 0;
            for (int i = 0; i < size; i++) {
                int itsTime = policy == FIRST_COME ? frames[i].came : frames[i].used;
                if (canGo(i, cleanAlone, aside) && (best < 0 || itsTime < bestTime)) {
                    best = i;
                    bestTime = itsTime;
                }
            }
            return best;
        }

        /** Two rounds are enough: in the first one every page that can go loses that it was used. */
        int sweep(boolean cleanAlone, int aside) {
            for (int i = 0; i <= 2 * size; i++) {
                int at = hand < size ? hand : 0;
                hand = at + 1 < size ? at + 1 : 0;
                if (canGo(at, cleanAlone, aside)) {
                    if (!frames[at].usedSinceHand) {
                        return at;
                    }
                    frames[at].usedSinceHand = false;
                }
            }
            return NONE;
        }

        int pages() {
            int count = 0;
            for (int i = 0; i < size; i++) {
                if (!frames[i].isFree()) {
                    count++;
                }
            }
            return count;
        }

        int dirtyPages(boolean withWork) {
            int count = 0;
            for (int i = 0; i < size; i++) {
                if (frames[i].dirty && (withWork || !frames[i].ofWork)) {
                    count++;
                }
            }
            return count;
        }

        int pagesOfWork() {
            int count = 0;
            for (int i = 0; i < size; i++) {
                if (frames[i].ofWork) {
                    count++;
                }
            }
            return count;
        }

        int longestDirty() {
            int best = NONE;
            for (int i = 0; i < size; i++) {
                if (frames[i].isPlainDirty() && (best < 0 || frames[i].since < frames[best].since)) {
                    best = i;
                }
            }
            return best;
        }

        boolean hasEachPageOnce() {
            for (int i = 0; i < size; i++) {
                if (!frames[i].isFree() && find(frames[i].spot) != i) {
                    return false;
                }
            }
            return true;
        }
    }

    /** The last accesses, oldest first, each as 16 times the file plus the block. */
    private static final class Trace {
        private static final int NEVER = ACCESSES;
        final int[] pages = new int[ACCESSES];
        int length;
        final int[] following = new int[ACCESSES];
        final int[] seen = new int[FILES * BLOCKS];
        final int[] nexts = new int[FRAMES];
        final Pool pool = new Pool(FRAMES);

        void add(int page) {
            if (length == ACCESSES) {
                System.arraycopy(pages, 1, pages, 0, ACCESSES - 1);
                length--;
            }
            pages[length] = page;
            length++;
        }

        int misses(char policy, int frameCount) {
            pool.startAnew(frameCount);
            if (policy == BEST) {
                lookAhead();
            }
            int count = 0;
            for (int i = 0; i < length; i++) {
                int at = pool.find(pages[i]);
                if (at >= 0) {
                    pool.use(at);
                } else {
                    count++;
                    at = roomBy(policy);
                    if (at < 0) {
                        return count;
                    }
                    pool.come(at, pages[i], 0);
                }
                nexts[at] = following[i];
            }
            return count;
        }

        /** Finds for each access the next one of the same page. */
        void lookAhead() {
            for (int i = 0; i < FILES * BLOCKS; i++) {
                seen[i] = NEVER;
            }
            for (int i = length - 1; i >= 0; i--) {
                following[i] = seen[pages[i]];
                seen[pages[i]] = i;
            }
        }

        int roomBy(char policy) {
            int free = pool.lowestFree();
            if (free >= 0) {
                return free;
            }
            return policy == BEST ? farthest() : pool.choose(policy, false, NONE);
        }

        int farthest() {
            int best = 0;
            for (int i = 1; i < pool.size; i++) {
                boolean lower = nexts[i] == nexts[best] && pool.frames[i].spot < pool.frames[best].spot;
                if (nexts[i] > nexts[best] || lower) {
                    best = i;
                }
            }
            return best;
        }
    }
}
