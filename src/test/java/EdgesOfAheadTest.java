/** Boundary cases of reading ahead, of promises 6, 8, 36 and 37. */
public final class EdgesOfAheadTest extends HouseTests {
    private EdgesOfAheadTest() {
    }

    public static void main(String[] args) {
        Check check = new Check("EdgesOfAheadTest");
        windows(check);
        thoseInFrames(check);
        upToFifteen(check);
        noneReadLast(check);
        notTheNextOne(check);
        hitsAndWrites(check);
        otherFiles(check);
        refusedReads(check);
        freeFramesFirst(check);
        noCleanPage(check);
        asidePage(check);
        cleanPagesByPolicy(check);
        handAhead(check);
        damagedOnes(check);
        damagedInFrames(check);
        usedOneBehindTheOther(check);
        inTransactions(check);
        costs(check);
        cannotFail(check);
        useful(check);
        usefulOnce(check);
        check.end();
    }

    private static Writeback withWindow(int window, int frames, int... devices) {
        Writeback house = houseOf(frames, devices);
        house.setWindow(window);
        return house;
    }

    private static void windows(Check check) {
        Writeback first = houseOf(8, 0);
        reads(first, 0, 0, 1);
        check.same("6 the window is 0 at first", first.countAhead(), 0);
        for (int window = 0; window <= 4; window++) {
            Writeback house = withWindow(window, 16, 1);
            reads(house, 0, 4, 5);
            check.same("8 ahead: as many as the window, " + window, house.countAhead(), window);
            check.same("8 ahead: pages, " + window, house.countPages(), 2 + window);
            for (int block = 6; block < 16; block++) {
                check.same("8 ahead: window " + window + ", block " + block, house.frameOf(0, block) >= 0,
                        block < 6 + window);
            }
        }
        Writeback less = withWindow(4, 16, 1);
        less.setWindow(0);
        reads(less, 0, 4, 5);
        check.same("6 back to 0", less.countAhead(), 0);
    }

    private static void thoseInFrames(Check check) {
        Writeback house = withWindow(2, 16, 0);
        house.write(0, 6, 1);
        house.write(0, 7, 1);
        reads(house, 0, 4, 5);
        check.same("8 ahead: all of the window are in frames", house.countAhead(), 0);
        Writeback last = withWindow(2, 16, 0);
        last.write(0, 7, 1);
        reads(last, 0, 4, 5);
        check.same("8 ahead: the last of the window is", frames(last, 0, 6, 7, 8), "3 0 -1");
        Writeback zero = withWindow(2, 16, 0);
        zero.write(0, 6, 1);
        reads(zero, 0, 4, 5);
        check.same("8 ahead: one in the frame 0 is passed over", frames(zero, 0, 6, 7, 8), "0 3 -1");
        Writeback full = withWindow(3, 4, 0);
        full.write(0, 6, 1);
        full.write(0, 8, 1);
        reads(full, 0, 4, 5);
        check.same("8 ahead: a page that is passed over needs no frame", frames(full, 0, 4, 5, 6, 7, 8), "-1 3 0 2 1");
        Writeback used = withWindow(1, 3, 0);
        reads(used, 0, 6, 0, 4);
        reads(used, 0, 5);
        check.same("8 ahead: 6 went as it was used longest ago, and came", frames(used, 0, 6, 0, 4, 5), "1 -1 2 0");
        Writeback passed = withWindow(1, 4, 0);
        reads(passed, 0, 6, 0, 4, 5, 12);
        check.same("8 ahead: to be passed over is no use", frames(passed, 0, 6, 0, 4, 5, 12), "-1 1 2 3 0");
    }

    private static void upToFifteen(Check check) {
        for (int block = 9; block < 16; block++) {
            Writeback house = withWindow(4, 16, 1, 1);
            reads(house, 0, block - 1, block);
            check.same("8 ahead: of " + block + " up to 15", house.countAhead(), Math.min(4, 15 - block));
            check.same("8 ahead: of " + block + " none of the next file", frames(house, 1, 0, 1, 2, 3), "-1 -1 -1 -1");
            check.same("8 ahead: of " + block + " none of the first ones", frames(house, 0, 0, 1), "-1 -1");
        }
        Writeback last = withWindow(1, 16, 0, 0, 0, 0, 1);
        reads(last, 3, 14, 15);
        check.same("8 ahead: behind the last place is nothing", last.countPages(), 2);
        check.same("8 ahead: nor on flash", last.frameOf(4, 0), -1);
    }

    private static void noneReadLast(Check check) {
        for (int block = 0; block < 16; block++) {
            Writeback house = withWindow(4, 16, 0, 1);
            house.read(0, block);
            check.same("8 ahead: none of the file was read, block " + block, house.countAhead(), 0);
            house.read(1, block);
            check.same("8 ahead: nor of the other one, block " + block, house.countAhead(), 0);
        }
        Writeback round = withWindow(4, 16, 0);
        reads(round, 0, 15, 0);
        check.same("8 ahead: 0 is not behind 15", round.countAhead(), 0);
        round.read(0, 1);
        check.same("8 ahead: 1 is behind 0", round.countAhead(), 4);
        Writeback later = house(0);
        later.read(0, 3);
        later.setWindow(2);
        later.read(0, 4);
        check.same("8 ahead: read ahead of the window being set", later.countAhead(), 2);
        Writeback late = withWindow(2, 8);
        late.addFile(0);
        late.read(0, 3);
        late.addFile(0);
        late.read(1, 0);
        check.same("8 ahead: a new file", late.countAhead(), 0);
        late.read(1, 1);
        check.same("8 ahead: its second one", late.countAhead(), 2);
    }

    private static void notTheNextOne(Check check) {
        Writeback back = withWindow(4, 16, 0);
        reads(back, 0, 5, 4);
        check.same("8 ahead: not the one in front of it", back.countAhead(), 0);
        back.read(0, 6);
        check.same("8 ahead: not the one behind an earlier one", back.countAhead(), 0);
        back.read(0, 8);
        check.same("8 ahead: not the next but one", back.countAhead(), 0);
        Writeback same = withWindow(4, 1, 0);
        reads(same, 0, 5);
        same.write(0, 9, 1);
        same.setFrames(2);
        same.read(0, 5);
        check.same("8 ahead: not the same one again", same.countAhead(), 0);
        same.read(0, 6);
        check.same("8 ahead: the one behind it", same.countAhead(), 4);
    }

    private static void hitsAndWrites(Check check) {
        Writeback hit = withWindow(2, 16, 0);
        hit.write(0, 5, 1);
        reads(hit, 0, 4, 5);
        check.same("8 ahead: none behind a hit", hit.countAhead(), 0);
        hit.read(0, 6);
        check.same("8 ahead: the hit was read last", hit.countAhead(), 2);
        Writeback written = withWindow(2, 16, 0);
        written.read(0, 4);
        written.write(0, 5, 1);
        check.same("8 ahead: none behind a write that missed", written.countAhead(), 0);
        written.read(0, 6);
        check.same("8 ahead: what was written was not read last", written.countAhead(), 0);
        Writeback between = withWindow(2, 16, 0);
        between.read(0, 4);
        between.write(0, 9, 1);
        between.write(0, 4, 1);
        between.read(0, 5);
        check.same("8 ahead: a write between does not matter", between.countAhead(), 2);
        Writeback came = withWindow(1, 16, 0);
        reads(came, 0, 4, 5);
        came.setFrames(1);
        came.setFrames(16);
        came.read(0, 7);
        check.same("8 ahead: what came ahead was not read last", came.countAhead(), 1);
        came.read(0, 8);
        check.same("8 ahead: but what was read behind it", came.countAhead(), 2);
    }

    private static void otherFiles(Check check) {
        Writeback house = withWindow(1, 16, 0, 0, 1);
        house.read(0, 4);
        house.read(1, 5);
        check.same("8 ahead: of another file it is not the next one", house.countAhead(), 0);
        house.read(2, 15);
        house.read(0, 5);
        check.same("8 ahead: others between do not matter", house.countAhead(), 1);
        house.read(1, 6);
        check.same("8 ahead: each file has its last one", house.countAhead(), 2);
        Writeback ends = withWindow(1, 16, 0, 0);
        ends.read(0, 15);
        ends.read(1, 0);
        check.same("8 ahead: the next place of the next file is not the next one", ends.countAhead(), 0);
    }

    private static void refusedReads(Check check) {
        Writeback house = withWindow(1, 16, 0);
        house.read(0, 4);
        house.damage(0, 9, 1);
        check.throwing("8 ahead: damaged", STATE, () -> house.read(0, 9));
        check.throwing("8 ahead: no such block", BOUNDS, () -> house.read(0, 16));
        check.throwing("8 ahead: nor this", BOUNDS, () -> house.read(0, -1));
        house.read(0, 5);
        check.same("8 ahead: what is refused is not read last", house.countAhead(), 1);
        Writeback tight = withWindow(1, 1, 0);
        tight.read(0, 4);
        tight.pin(0, 4);
        check.throwing("8 ahead: no room", STATE, () -> tight.read(0, 9));
        tight.unpin(0, 4);
        tight.setFrames(4);
        tight.read(0, 10);
        check.same("8 ahead: what found no room was not read last", tight.countAhead(), 0);
        tight.fail();
        check.throwing("8 ahead: no power", UNSUPPORTED, () -> tight.read(0, 2));
        tight.powerOn();
        tight.read(0, 11);
        check.same("8 ahead: nor what had no power", tight.countAhead(), 1);
    }

    private static void freeFramesFirst(Check check) {
        Writeback exact = withWindow(2, 4, 0);
        reads(exact, 0, 4, 5);
        check.same("8 ahead: just as many free frames", frames(exact, 0, 4, 5, 6, 7), "0 1 2 3");
        Writeback short1 = withWindow(2, 3, 0);
        reads(short1, 0, 4, 5);
        check.same("8 ahead: one free frame too few", frames(short1, 0, 4, 5, 6, 7), "-1 1 2 0");
        Writeback hole = withWindow(2, 4, 0);
        hole.begin();
        hole.write(0, 12, 1);
        hole.read(0, 4);
        hole.write(0, 14, 1);
        hole.abort();
        hole.read(0, 5);
        check.same("8 ahead: the lowest free ones", frames(hole, 0, 4, 5, 6, 7), "1 0 2 3");
    }

    private static void noCleanPage(Check check) {
        Writeback one = withWindow(4, 1, 0);
        reads(one, 0, 4, 5);
        check.same("8 ahead: with one frame none comes", one.countAhead() * 10 + one.frameOf(0, 5), 0);
        Writeback dirty = withWindow(4, 3, 0);
        dirty.write(0, 0, 1);
        dirty.read(0, 4);
        dirty.write(0, 2, 1);
        dirty.write(0, 4, 1);
        dirty.read(0, 0);
        dirty.read(0, 5);
        check.same("8 ahead: dirty ones do not go", frames(dirty, 0, 0, 2, 4, 5, 6), "0 -1 1 2 -1");
        check.same("8 ahead: only the one that went for the read was flushed", dirty.countDirty(), 2);
        Writeback pinned = withWindow(4, 2, 0);
        pinned.read(0, 4);
        pinned.pin(0, 4);
        pinned.read(0, 5);
        check.same("8 ahead: a pinned one does not go", frames(pinned, 0, 4, 5, 6), "0 1 -1");
        pinned.unpin(0, 4);
        pinned.read(0, 12);
        reads(pinned, 0, 13);
        check.same("8 ahead: not pinned any more it does", frames(pinned, 0, 12, 13, 14, 15), "-1 1 -1 0");
        Writeback ends = withWindow(2, 3, 0);
        ends.write(0, 0, 1);
        ends.write(0, 7, 1);
        reads(ends, 0, 4);
        ends.pin(0, 7);
        ends.pin(0, 4);
        ends.read(0, 5);
        check.same("8 ahead: the first that finds none ends it", frames(ends, 0, 0, 4, 5, 6, 7), "-1 2 0 -1 1");
    }

    private static void asidePage(Check check) {
        Writeback f = withWindow(2, 2, 0);
        f.setPolicy('f');
        reads(f, 0, 9, 4, 5);
        check.same("8 ahead: by f what was read stays", frames(f, 0, 5, 6, 7), "0 -1 1");
        Writeback l = withWindow(4, 2, 0);
        reads(l, 0, 9, 4, 5);
        check.same("8 ahead: by l what was read stays", frames(l, 0, 5, 6, 7, 8, 9), "0 -1 -1 -1 1");
        Writeback c = withWindow(3, 2, 0);
        c.setPolicy('c');
        reads(c, 0, 9, 4, 5);
        check.same("8 ahead: by c what was read stays", frames(c, 0, 5, 6, 7, 8), "0 -1 -1 1");
        check.same("8 ahead: three came and two went", c.countAhead() * 10 + c.countPages(), 32);
        Writeback next = withWindow(1, 2, 0);
        reads(next, 0, 4, 5);
        next.setWindow(0);
        next.read(0, 6);
        next.read(0, 12);
        check.same("8 ahead: aside for its own reading alone", frames(next, 0, 5, 6, 12), "-1 0 1");
    }

    private static void cleanPagesByPolicy(Check check) {
        Writeback l = withWindow(1, 4, 0);
        l.write(0, 0, 1);
        reads(l, 0, 12, 4, 14);
        reads(l, 0, 12, 0);
        l.setFrames(5);
        l.read(0, 4);
        l.read(0, 5);
        check.same("8 ahead: by l the clean page used longest ago", frames(l, 0, 0, 12, 4, 14, 5, 6), "0 1 2 -1 4 3");
        Writeback f = withWindow(1, 5, 0);
        f.setPolicy('f');
        f.write(0, 0, 1);
        reads(f, 0, 12, 4, 14);
        reads(f, 0, 12, 4, 5);
        check.same("8 ahead: by f the clean page that came longest ago", frames(f, 0, 0, 12, 4, 14, 5, 6),
                "0 -1 2 3 4 1");
        Writeback pinned = withWindow(1, 5, 0);
        pinned.setPolicy('f');
        pinned.write(0, 0, 1);
        reads(pinned, 0, 12, 4, 14);
        pinned.pin(0, 12);
        reads(pinned, 0, 4, 5);
        check.same("8 ahead: by f not a pinned one", frames(pinned, 0, 0, 12, 4, 14, 5, 6), "0 1 -1 3 4 2");
    }

    private static void handAhead(Check check) {
        Writeback house = withWindow(1, 4, 0);
        house.setPolicy('c');
        house.write(0, 0, 1);
        reads(house, 0, 12, 4, 5);
        // The frames are 0 dirty, 12, 4, 5: from the frame 0 on, 12 and 4 lose it, 5 is aside, then 12 goes.
        check.same("8 ahead: by c from the hand on, round and round", frames(house, 0, 0, 12, 4, 5, 6), "0 -1 2 3 1");
        house.read(0, 14);
        // The hand is at 2: 4 has lost it and goes.
        check.same("8 ahead: by c the hand is behind its frame", frames(house, 0, 0, 4, 5, 6, 14), "0 -1 3 1 2");
        house.read(0, 10);
        // The hand is at 3: 5 loses it, 0 loses it, 6 loses it, 14 loses it, then 5 goes from the frame 3.
        check.same("8 ahead: by c those passed over stay used", frames(house, 0, 0, 5, 6, 14, 10), "0 -1 1 2 3");
        Writeback free = withWindow(2, 6, 0);
        free.setPolicy('c');
        reads(free, 0, 12, 14, 4, 5);
        free.read(0, 0);
        check.same("8 ahead: into free frames no hand moves", frames(free, 0, 12, 0), "-1 0");
        Writeback none = withWindow(2, 2, 0);
        none.setPolicy('c');
        none.read(0, 4);
        none.pin(0, 4);
        none.read(0, 5);
        none.unpin(0, 4);
        none.read(0, 12);
        check.same("8 ahead: none can go, the hand stays", frames(none, 0, 4, 5, 12), "-1 1 0");
    }

    private static void damagedOnes(Check check) {
        for (int ahead = 1; ahead <= 4; ahead++) {
            Writeback house = withWindow(3, 16, 0);
            house.damage(0, 5 + ahead, 1);
            reads(house, 0, 4, 5);
            check.same("8 ahead: damaged is number " + ahead, house.countAhead(), ahead - 1);
            check.same("8 ahead: the arm goes no further, " + ahead, house.getArm(), 4 + ahead);
        }
        Writeback full = withWindow(2, 2, 0);
        full.damage(0, 6, 1);
        reads(full, 0, 12, 4, 5);
        check.same("8 ahead: for a damaged one none goes", frames(full, 0, 4, 5, 7), "1 0 -1");
        full.damage(0, 6, 0);
        reads(full, 0, 9, 4);
        full.setFrames(3);
        full.read(0, 5);
        check.same("8 ahead: right again it comes", full.frameOf(0, 6) >= 0, true);
        Writeback last = withWindow(4, 16, 0);
        last.damage(0, 15, 1);
        reads(last, 0, 13, 14);
        check.same("8 ahead: the last block is damaged", last.countAhead(), 0);
    }

    private static void damagedInFrames(Check check) {
        Writeback house = withWindow(2, 16, 0);
        house.read(0, 6);
        house.damage(0, 6, 9);
        reads(house, 0, 4, 5);
        check.same("8 ahead: a damaged one in a frame is passed over", frames(house, 0, 6, 7, 8), "0 3 -1");
        Writeback written = withWindow(2, 16, 0);
        written.damage(0, 6, 9);
        written.write(0, 6, 4);
        reads(written, 0, 4, 5);
        check.same("8 ahead: so is one that is written anew there", frames(written, 0, 6, 7, 8), "0 3 -1");
    }

    private static void usedOneBehindTheOther(Check check) {
        Writeback l = withWindow(2, 4, 0);
        reads(l, 0, 4, 5);
        reads(l, 0, 4);
        reads(l, 0, 10, 12, 14);
        check.same("8 ahead: read first, used first, the others behind it", frames(l, 0, 4, 5, 6, 7, 10, 12, 14),
                "0 -1 -1 -1 1 2 3");
        Writeback f = withWindow(2, 4, 0);
        f.setPolicy('f');
        reads(f, 0, 4, 5, 10, 12, 14);
        check.same("8 ahead: they came one behind the other", frames(f, 0, 4, 5, 6, 7, 10, 12, 14),
                "-1 -1 -1 3 0 1 2");
        Writeback c = withWindow(2, 4, 0);
        c.setPolicy('c');
        reads(c, 0, 4, 5, 10, 6, 12);
        // All lose it, 4 goes and the hand is at 1; 6 is used then; 5 goes and the hand is at 2.
        check.same("8 ahead: what came ahead was used as it came", frames(c, 0, 4, 5, 6, 7, 10, 12), "-1 -1 2 3 0 1");
    }

    private static void inTransactions(Check check) {
        Writeback house = withWindow(2, 3, 0);
        house.begin();
        house.write(0, 0, 1);
        house.write(0, 2, 1);
        house.read(0, 4);
        house.read(0, 5);
        check.same("8 ahead: pages of the transaction do not go", frames(house, 0, 0, 2, 5, 6), "0 1 2 -1");
        house.setFrames(4);
        house.read(0, 6);
        check.same("8 ahead: a free frame for one", frames(house, 0, 0, 2, 5, 6, 7, 8), "0 1 -1 3 -1 2");
        house.abort();
        check.same("8 ahead: what came ahead stays by an abort", house.frameOf(0, 8), 2);
        check.same("8 ahead: two of them", house.countAhead(), 2);
    }

    private static void costs(Check check) {
        Writeback house = withWindow(4, 16, 0, 1);
        house.setTenant(1);
        reads(house, 0, 4, 5);
        check.same("8 ahead: each at its cost", house.getBill(1), 5 + 2 + 4 * 2);
        check.same("8 ahead: the arm is at the last one", house.getArm(), 9);
        reads(house, 1, 4, 5);
        check.same("8 ahead: on flash", house.getBill(1), 15 + 2 + 4);
        check.same("34 none of them is a miss", house.countMisses(), 4);
        check.same("40 none of them is in the trace", house.missesBy('l', 16), 4);
    }

    private static void cannotFail(Check check) {
        Writeback house = withWindow(4, 4, 0);
        house.write(0, 0, 1);
        house.write(0, 1, 1);
        house.failAt(1);
        reads(house, 0, 4, 5);
        check.same("8 ahead: nothing is written for it", house.hasPower(), true);
        check.same("8 ahead: only clean ones went", frames(house, 0, 0, 1, 5, 9), "0 1 3 2");
    }

    private static void useful(Check check) {
        Writeback house = withWindow(4, 16, 0);
        reads(house, 0, 4, 5);
        check.same("37 none at first", house.countUseful(), 0);
        check.refused("37 a refused write", ARGUMENT, house, () -> house.write(0, 6, -1));
        house.pin(0, 6);
        house.frameOf(0, 6);
        check.same("37 a pin is no access", house.countUseful(), 0);
        reads(house, 0, 4, 5);
        check.same("37 nor are pages that were read", house.countUseful(), 0);
        for (int block = 6; block < 10; block++) {
            house.write(0, block, 1);
            check.same("37 the page " + block, house.countUseful(), block - 5);
        }
        reads(house, 0, 6, 7, 8, 9);
        check.same("37 each once", house.countUseful(), 4);
        check.same("37 not more than came", house.countAhead(), 4);
        Writeback failed = withWindow(1, 16, 0);
        failed.setLimit(1);
        failed.write(0, 0, 1);
        reads(failed, 0, 4, 5);
        failed.failAt(1);
        check.same("37 the power fails in the write", failed.write(0, 6, 1), -1);
        check.same("37 it counts also then", failed.countUseful(), 1);
    }

    private static void usefulOnce(Check check) {
        Writeback again = withWindow(1, 2, 0);
        reads(again, 0, 4, 5, 6);
        check.same("37 came and was read", again.countAhead() * 10 + again.countUseful(), 11);
        reads(again, 0, 10, 12, 4, 5, 6);
        check.same("37 came anew, and was read anew", again.countAhead() * 10 + again.countUseful(), 22);
        Writeback gone = withWindow(1, 2, 0);
        reads(gone, 0, 4, 5, 10, 12, 6);
        check.same("37 it had left its frame", gone.countUseful(), 0);
        Writeback laid = withWindow(1, 8, 0);
        laid.keepImage(0);
        reads(laid, 0, 4, 5);
        laid.layBack(0, 0);
        laid.read(0, 6);
        check.same("37 dropped by an image", laid.countUseful(), 0);
        Writeback dark = withWindow(1, 8, 0);
        reads(dark, 0, 4, 5);
        dark.fail();
        dark.powerOn();
        dark.read(0, 6);
        check.same("37 lost with the power", dark.countUseful(), 0);
        Writeback aborted = withWindow(1, 8, 0);
        reads(aborted, 0, 4, 5);
        aborted.begin();
        aborted.write(0, 6, 1);
        aborted.abort();
        aborted.read(0, 6);
        check.same("37 an aborted write was an access", aborted.countUseful(), 1);
    }
}
