/** Boundary cases of promises 15 to 21: transactions, the log, checkpoints and syncs. */
public final class EdgesOfWorkTest extends HouseTests {
    private EdgesOfWorkTest() {
    }

    public static void main(String[] args) {
        Check check = new Check("EdgesOfWorkTest");
        oneAtATime(check);
        begunAreCounted(check);
        sixBlocks(check);
        sixOnceMore(check);
        committingNothing(check);
        pagesAreKept(check);
        tenInTheLog(check);
        elevenInTheLog(check);
        moreInTheLog(check);
        checkpointAheadOfTheLog(check);
        lastValues(check);
        dirtySince(check);
        leavingTheLog(check);
        abortingWhatCame(check);
        abortingWhatWasThere(check);
        abortingDirtyOnes(check);
        checkpointAtTheEnds(check);
        checkpointOrder(check);
        syncAtTheEnds(check);
        syncFromTheArm(check);
        syncOnFlash(check);
        check.end();
    }

    private static Writeback wide(int... devices) {
        Writeback house = houseOf(16, devices);
        house.setLimit(16);
        return house;
    }

    private static void write(Writeback house, int file, int... blocks) {
        for (int block : blocks) {
            house.write(file, block, 100 + block);
        }
    }

    private static int commit(Writeback house, int file, int... blocks) {
        house.begin();
        write(house, file, blocks);
        return house.commit();
    }

    private static void oneAtATime(Check check) {
        Writeback house = house(0);
        check.refused("16 none yet", UNSUPPORTED, house, house::commit);
        check.refused("17 none yet", UNSUPPORTED, house, house::abort);
        house.begin();
        check.refused("15 one goes on", UNSUPPORTED, house, house::begin);
        house.write(0, 0, 1);
        check.refused("15 one goes on with a block", UNSUPPORTED, house, house::begin);
        house.commit();
        check.refused("16 it is committed", UNSUPPORTED, house, house::commit);
        check.refused("17 it is committed", UNSUPPORTED, house, house::abort);
        house.begin();
        house.abort();
        check.refused("16 it is aborted", UNSUPPORTED, house, house::commit);
        check.refused("17 it is aborted", UNSUPPORTED, house, house::abort);
        house.begin();
        house.failAt(1);
        house.commit();
        house.powerOn();
        check.refused("16 its commit failed, it is lost", UNSUPPORTED, house, house::commit);
        check.refused("17 its commit failed, it is lost", UNSUPPORTED, house, house::abort);
    }

    private static void begunAreCounted(Check check) {
        Writeback house = house(0);
        for (int turn = 1; turn <= 150; turn++) {
            check.same("15 begun", house.begin(), turn);
            check.throwing("15 what is refused is not begun", UNSUPPORTED, house::begin);
            if (turn % 3 == 0) {
                house.commit();
            } else if (turn % 3 == 1) {
                house.abort();
            } else {
                house.fail();
                house.powerOn();
            }
        }
    }

    private static void sixBlocks(Check check) {
        Writeback house = wide(0, 1);
        house.begin();
        for (int block = 0; block < 6; block++) {
            check.same("18 written by now", house.countWritten(), block);
            check.same("9 block " + block + " of six", house.write(block % 2, block, block), 0);
        }
        house.read(0, 9);
        check.same("18 six", house.countWritten(), 6);
        check.refused("9 a 7th in no frame", STATE, house, () -> house.write(0, 8, 1));
        check.refused("9 a 7th in a frame", STATE, house, () -> house.write(0, 9, 1));
        check.refused("9 the same place of the other device", STATE, house, () -> house.write(1, 0, 1));
        for (int block = 0; block < 6; block++) {
            check.same("9 block " + block + " again", house.write(block % 2, block, 50 + block), 0);
        }
        check.same("18 still six", house.countWritten(), 6);
        check.same("8 it can read others", house.read(0, 8), 0);
        check.same("16 six blocks in the log", house.commit(), 6);
        check.same("18 none behind it", house.countWritten(), 0);
        check.same("9 a 7th behind it", house.write(0, 8, 1), 0);
    }

    private static void sixOnceMore(Check check) {
        Writeback house = wide(0);
        house.begin();
        write(house, 0, 0, 1, 2, 3, 4, 5);
        check.same("17 six were written", house.abort(), 6);
        check.same("17 no page is left", house.countPages(), 0);
        house.begin();
        check.same("18 none yet", house.countWritten(), 0);
        write(house, 0, 6, 7, 8, 9, 10, 11);
        check.refused("9 a 7th of the second one", STATE, house, () -> house.write(0, 0, 1));
        house.fail();
        house.powerOn();
        house.begin();
        write(house, 0, 0, 1, 2, 3, 4, 5);
        check.same("18 six of the third one", house.countWritten(), 6);
        check.refused("9 a 7th of the third one", STATE, house, () -> house.write(0, 6, 1));
    }

    private static void committingNothing(Check check) {
        Writeback house = wide(0);
        house.begin();
        check.same("16 of nothing, an empty log", house.commit(), 0);
        check.same("16 it costs 1", house.getBill(0), 1);
        commit(house, 0, 0, 1, 2, 3);
        house.begin();
        house.read(0, 9);
        check.same("16 of nothing, a log of four", house.commit(), 4);
        check.same("16 and 1, and the reading", house.getBill(0), 3 + 10);
        commit(house, 0, 4, 5, 6, 7, 8, 10);
        house.begin();
        check.same("16 of nothing, a log of ten", house.commit(), 10);
        check.same("16 no checkpoint for it", house.countDirty(), 10);
        house.begin();
        house.failAt(1);
        check.same("16 of nothing it is a write of the log", house.commit(), -1);
        check.same("16 the log stays", house.powerOn(), 10);
    }

    private static void pagesAreKept(Check check) {
        Writeback house = houseOf(7, 0, 1);
        house.setLimit(1);
        house.begin();
        write(house, 0, 0, 2, 4, 6, 8, 10);
        reads(house, 1, 0, 2, 4, 6, 8, 10, 12);
        check.same("8 the pages of the transaction were not evicted", frames(house, 0, 0, 2, 4, 6, 8, 10),
                "0 1 2 3 4 5");
        check.same("19 nor flushed by a checkpoint", house.checkpoint(), 0);
        check.same("20 nor by a sync", house.sync(0), 0);
        house.setFrames(6);
        check.refused("8 six frames are all of it", STATE, house, () -> house.read(1, 0));
        check.same("31 all are dirty", house.countDirty(), 6);
        check.same("20 nothing was written", house.onPlace(0, 10), 0);
        house.commit();
        check.same("19 all six are plain ones", house.checkpoint(), 6);
    }

    /** Blocks of the file 1 in the log, as many as told, but not more than ten. */
    private static Writeback withInLog(int count) {
        Writeback house = wide(0, 0);
        house.begin();
        for (int block = 0; block < count; block++) {
            if (block == 6) {
                house.commit();
                house.begin();
            }
            house.write(1, block, 10 + block);
        }
        house.commit();
        return house;
    }

    private static void tenInTheLog(Check check) {
        Writeback house = withInLog(10);
        check.same("21 ten", house.countLog(), 10);
        check.same("16 no checkpoint for ten", house.countDirty(), 10);
        check.same("16 two writes of the log", house.getBill(0), 2);
        house.begin();
        write(house, 1, 0, 2, 4, 6, 8, 9);
        check.same("16 six that are in it bring none more", house.commit(), 10);
        check.same("16 no checkpoint for them", house.getBill(0), 3);
        check.same("16 all are dirty", house.countDirty(), 10);
        Writeback four = withInLog(4);
        four.begin();
        write(four, 0, 0, 1, 2, 3, 4, 5);
        check.same("16 four and six are ten", four.commit(), 10);
        check.same("16 all of them dirty", four.countDirty(), 10);
        Writeback mixed = withInLog(7);
        mixed.begin();
        write(mixed, 0, 0, 1, 2);
        write(mixed, 1, 0, 3, 6);
        check.same("16 seven and three new ones are ten", mixed.commit(), 10);
        check.same("16 all of them still dirty", mixed.countDirty(), 10);
    }

    private static void elevenInTheLog(Check check) {
        Writeback house = withInLog(10);
        house.begin();
        write(house, 0, 15);
        check.same("16 an 11th brings a checkpoint", house.commit(), 1);
        check.same("16 all others were flushed", house.countDirty(), 1);
        check.same("16 costs of the checkpoint", house.getBill(0), 2 + 17 + 9 * 2 + 1);
        check.same("16 values by it", house.onPlace(1, 0) * 100 + house.onPlace(1, 9), 1019);
        check.same("16 the new one is in the log alone", house.onPlace(0, 15), 0);
        Writeback first = wide(0, 0);
        first.read(0, 15);
        commit(first, 1, 0, 1, 2, 3, 4);
        commit(first, 1, 5, 6, 7, 8, 9);
        check.same("16 an 11th in the first frame", commit(first, 0, 15), 1);
        Writeback five = withInLog(5);
        five.begin();
        write(five, 0, 0, 1, 2, 3, 4, 5);
        check.same("16 five and six are eleven", five.commit(), 6);
        check.same("16 six are dirty", five.countDirty(), 6);
        Writeback mixed = withInLog(8);
        mixed.begin();
        write(mixed, 0, 0, 1, 2);
        write(mixed, 1, 0, 3, 7);
        check.same("16 eight and three new ones, three stay in it", mixed.commit(), 6);
        check.same("16 six are dirty, too", mixed.countDirty(), 6);
        check.same("16 what the log had of them was not flushed", mixed.onPlace(1, 3), 0);
        check.same("16 the others were", mixed.onPlace(1, 4), 14);
        mixed.fail();
        check.same("16 they come back", mixed.powerOn(), 6);
        check.same("16 with the last values", mixed.onPlace(1, 3) * 1000 + mixed.onPlace(0, 2), 103102);
    }

    private static void moreInTheLog(Check check) {
        Writeback house = withInLog(10);
        house.begin();
        write(house, 0, 0, 1, 2, 3, 4, 5);
        check.same("16 sixteen would be in it", house.commit(), 6);
        commit(house, 0, 6, 7, 8, 9);
        check.same("16 ten again", house.countLog(), 10);
        house.write(1, 15, 3);
        check.same("16 plain ones are not in it", house.countLog(), 10);
        house.begin();
        write(house, 0, 10);
        check.same("16 the next checkpoint", house.commit(), 1);
        check.same("16 plain ones are flushed by it, too", house.onPlace(1, 15), 3);
    }

    private static void checkpointAheadOfTheLog(Check check) {
        for (int n = 1; n <= 12; n++) {
            Writeback house = withInLog(10);
            house.begin();
            house.write(0, 15, 5);
            house.failAt(n);
            check.same("16 ten flushes, then the log, write " + n, house.commit(), n <= 11 ? -1 : 1);
            check.same("16 flushed by then, write " + n, house.countLog(), n <= 11 ? 11 - n : 1);
            check.same("16 the power, write " + n, house.hasPower(), n > 11);
            check.same("16 the cost by then, write " + n, house.getBill(0),
                    n == 1 ? 2 : 2 + 17 + 2 * (Math.min(n, 11) - 2) + (n > 11 ? 1 : 0));
            check.same("16 the block is not committed, write " + n, house.onPlace(0, 15), 0);
        }
        Writeback ends = wide(0, 0, 0, 0, 1, 1, 1, 1);
        commit(ends, 0, 0);
        commit(ends, 7, 15);
        commit(ends, 3, 15);
        commit(ends, 4, 0);
        commit(ends, 1, 1, 2, 3, 4, 5, 6);
        ends.begin();
        write(ends, 1, 7);
        check.same("16 the first and the last places, too", ends.commit(), 1);
        check.same("16 the first of the platter", ends.onPlace(0, 0), 100);
        check.same("16 the last of the platter", ends.onPlace(3, 15), 115);
        check.same("16 the first of flash", ends.onPlace(4, 0), 100);
        check.same("16 the last of flash", ends.onPlace(7, 15), 115);
    }

    private static void lastValues(Check check) {
        Writeback house = wide(0);
        house.begin();
        house.write(0, 0, 1);
        house.write(0, 0, 2);
        house.write(0, 15, 9999);
        house.write(0, 15, 0);
        house.write(0, 0, 3);
        check.same("16 two blocks by five writes", house.commit(), 2);
        house.write(0, 0, 4);
        house.begin();
        house.write(0, 0, 5);
        house.abort();
        house.begin();
        house.write(0, 0, 6);
        house.fail();
        check.same("16 two come back", house.powerOn(), 2);
        check.same("16 the last committed value", house.onPlace(0, 0), 3);
        check.same("16 also if it is what was there", house.onPlace(0, 15), 0);
        commit(house, 0, 7);
        house.begin();
        house.write(0, 7, 8);
        check.same("16 a block again, once in it", house.commit(), 1);
        house.fail();
        house.powerOn();
        check.same("16 with its last value", house.onPlace(0, 7), 8);
        Writeback plain = wide(0);
        plain.write(0, 3, 1);
        plain.begin();
        plain.write(0, 4, 2);
        check.same("16 what was written ahead of it is not of it", plain.commit(), 1);
        plain.fail();
        plain.powerOn();
        check.same("16 and is lost", plain.onPlace(0, 3) * 10 + plain.onPlace(0, 4), 2);
    }

    private static void dirtySince(Check check) {
        Writeback before = wide(0);
        before.write(0, 1, 1);
        before.write(0, 2, 1);
        before.begin();
        before.write(0, 1, 2);
        before.commit();
        before.setLimit(2);
        before.write(0, 3, 1);
        check.same("16 dirty since ahead of the transaction", before.onPlace(0, 1) * 10 + before.onPlace(0, 2), 20);
        Writeback within = wide(0);
        within.read(0, 1);
        within.write(0, 2, 1);
        within.begin();
        within.write(0, 1, 2);
        within.commit();
        within.setLimit(2);
        within.write(0, 3, 1);
        check.same("16 dirty since the write in it", within.onPlace(0, 1) * 10 + within.onPlace(0, 2), 1);
        within.write(0, 4, 1);
        check.same("16 but not since the commit", within.onPlace(0, 1) * 10 + within.onPlace(0, 3), 20);
    }

    private static void leavingTheLog(Check check) {
        Writeback house = houseOf(2, 0);
        commit(house, 0, 0, 4);
        check.same("21 two", house.countLog(), 2);
        house.read(0, 8);
        check.same("21 one was evicted", house.countLog(), 1);
        house.sync(0);
        check.same("21 one was flushed by a sync", house.countLog(), 0);
        commit(house, 0, 0, 4);
        house.checkpoint();
        check.same("21 by a checkpoint", house.countLog(), 0);
        commit(house, 0, 0, 4);
        house.setFrames(1);
        check.same("21 by fewer frames", house.countLog(), 1);
        house.setFrames(2);
        house.setLimit(1);
        house.write(0, 8, 1);
        check.same("21 by a wait", house.countLog(), 0);
        commit(house, 0, 0);
        house.write(0, 0, 77);
        check.same("21 a plain write leaves it in", house.countLog(), 1);
        house.sync(0);
        check.same("21 until that is flushed", house.countLog() * 100 + house.onPlace(0, 0), 77);
        house.begin();
        house.write(0, 0, 78);
        house.abort();
        check.same("21 an abort puts nothing into it", house.countLog(), 0);
    }

    private static void abortingWhatCame(Check check) {
        Writeback house = houseOf(3, 0);
        house.begin();
        house.write(0, 0, 1);
        house.write(0, 0, 2);
        house.pin(0, 0);
        house.pin(0, 0);
        check.same("17 one block", house.abort(), 1);
        check.same("17 it goes, pinned or not", house.frameOf(0, 0), -1);
        check.refused("17 there is nothing to unpin", NO_ELEMENT, house, () -> house.unpin(0, 0));
        house.read(0, 0);
        check.refused("17 come again it is not pinned", NO_ELEMENT, house, () -> house.unpin(0, 0));
        house.begin();
        house.read(0, 2);
        house.write(0, 2, 5);
        house.abort();
        check.same("17 read in it ahead of the write, it stays", house.frameOf(0, 2), 1);
        check.same("17 as it was read", house.read(0, 2), 0);
        Writeback gone = houseOf(2, 0);
        gone.write(0, 0, 7);
        gone.begin();
        reads(gone, 0, 2, 4);
        gone.write(0, 0, 8);
        gone.abort();
        check.same("17 evicted ahead of its first write, it goes", frames(gone, 0, 0, 2, 4), "-1 -1 0");
        check.same("17 what was flushed then is there", gone.onPlace(0, 0), 7);
        Writeback all = wide(0);
        all.begin();
        write(all, 0, 0, 1, 2, 3, 4, 5);
        check.same("17 all six of six", all.abort(), 6);
        check.same("17 no page is left", all.countPages() + all.countDirty(), 0);
        check.same("17 nothing was written", all.getBill(0), 0);
    }

    private static void abortingWhatWasThere(Check check) {
        Writeback house = houseOf(16, 0);
        house.setFrames(16);
        for (int block = 0; block < 16; block++) {
            house.read(0, block);
        }
        house.begin();
        write(house, 0, 0, 15);
        house.pin(0, 0);
        check.same("17 the first and the last frame's", house.abort(), 2);
        check.same("17 both are clean", house.countDirty(), 0);
        check.same("17 with what they held", house.read(0, 0) + house.read(0, 15), 0);
        check.same("17 a pin of within stays", house.unpin(0, 0), 0);
        check.same("17 clean, they can go ahead of a dirty one", house.isSound(), true);
        house.begin();
        house.write(0, 3, 5);
        house.abort();
        house.begin();
        check.same("17 of nothing", house.abort(), 0);
        check.same("17 no block any more", house.countWritten(), 0);
        house.damage(0, 3, 9);
        house.begin();
        house.write(0, 3, 6);
        house.abort();
        check.same("17 damage of the place does not matter", house.read(0, 3), 0);
        check.same("17 it is still damaged", house.scrub(0), 1);
    }

    private static void abortingDirtyOnes(Check check) {
        Writeback house = wide(0);
        house.write(0, 1, 11);
        house.write(0, 2, 12);
        house.begin();
        house.write(0, 2, 22);
        house.write(0, 1, 21);
        house.abort();
        check.same("17 what they held", house.read(0, 1) * 100 + house.read(0, 2), 1112);
        check.same("17 both dirty", house.countDirty(), 2);
        house.setLimit(1);
        house.write(0, 2, 13);
        check.same("17 dirty since when they were", house.onPlace(0, 1) * 100 + house.onPlace(0, 2), 1100);
        Writeback clean = wide(0);
        clean.read(0, 1);
        clean.begin();
        clean.write(0, 1, 5);
        clean.abort();
        clean.write(0, 2, 6);
        clean.write(0, 1, 7);
        clean.setLimit(1);
        clean.write(0, 1, 8);
        check.same("17 a clean one is not dirty since the aborted write",
                clean.onPlace(0, 2) * 10 + clean.onPlace(0, 1), 60);
    }

    private static void checkpointAtTheEnds(Check check) {
        Writeback house = wide(0, 0, 0, 0, 1, 1, 1, 1);
        check.same("19 no pages", house.checkpoint(), 0);
        house.read(0, 0);
        check.same("19 no dirty pages", house.checkpoint(), 0);
        write(house, 0, 0);
        check.same("19 the first place of the platter", house.checkpoint() * 1000 + house.onPlace(0, 0), 1100);
        write(house, 3, 15);
        check.same("19 the last place of the platter", house.checkpoint() * 1000 + house.onPlace(3, 15), 1115);
        write(house, 4, 0);
        check.same("19 the first place of flash", house.checkpoint() * 1000 + house.onPlace(4, 0), 1100);
        write(house, 7, 15);
        check.same("19 the last place of flash", house.checkpoint() * 1000 + house.onPlace(7, 15), 1115);
        check.same("19 all are clean", house.checkpoint(), 0);
        Writeback full = wide(0);
        for (int block = 0; block < 16; block++) {
            full.write(0, block, 1);
        }
        check.same("19 sixteen", full.checkpoint(), 16);
        check.same("19 none is left", full.countDirty(), 0);
        check.same("19 all are in their frames", full.countPages(), 16);
    }

    private static void checkpointOrder(Check check) {
        for (int n = 1; n <= 5; n++) {
            Writeback house = wide(1, 0, 0, 1);
            house.read(1, 9);
            write(house, 3, 0);
            write(house, 0, 15);
            write(house, 2, 0);
            write(house, 1, 15);
            house.failAt(n);
            check.same("19 four, the power fails ahead of " + n, house.checkpoint(), n <= 4 ? -1 : 4);
            int written = (house.onPlace(1, 15) > 0 ? 1000 : 0) + (house.onPlace(2, 0) > 0 ? 100 : 0)
                    + (house.onPlace(0, 15) > 0 ? 10 : 0) + (house.onPlace(3, 0) > 0 ? 1 : 0);
            int[] due = {0, 1000, 1100, 1110, 1111};
            check.same("19 by rising devices and places, " + n, written, due[n - 1]);
        }
    }

    private static void syncAtTheEnds(Check check) {
        Writeback house = wide(0, 0, 0);
        check.same("20 no pages", house.sync(1), 0);
        house.read(1, 3);
        check.same("20 no dirty pages", house.sync(1), 0);
        write(house, 0, 15);
        write(house, 2, 0);
        check.same("20 not the places beside its own", house.sync(1), 0);
        write(house, 1, 0, 15);
        check.same("20 its first and its last block", house.sync(1), 2);
        check.same("20 both are on their places", house.onPlace(1, 0) + house.onPlace(1, 15), 215);
        check.same("20 those beside are dirty", house.isDirty(0, 15) && house.isDirty(2, 0), true);
        check.same("20 none again", house.sync(1), 0);
        house.begin();
        write(house, 1, 0, 15);
        check.same("20 none of the transaction", house.sync(1), 0);
        house.commit();
        check.same("20 both behind it", house.sync(1), 2);
        Writeback full = wide(0, 1);
        for (int block = 0; block < 16; block++) {
            full.write(0, block, 1);
        }
        check.same("20 sixteen", full.sync(0), 16);
        Writeback failing = wide(0);
        failing.read(0, 4);
        write(failing, 0, 2, 6);
        failing.failAt(2);
        check.same("20 the power fails below the arm", failing.sync(0), -1);
        check.same("20 above it was flushed", failing.onPlace(0, 6) * 1000 + failing.onPlace(0, 2), 106000);
    }

    /** Places 16 to 31 with dirty pages at some; the arm stands at the place told. */
    private static long costOfSync(int arm, int... blocks) {
        Writeback house = wide(0, 0, 0);
        house.read(arm / 16, arm % 16);
        write(house, 1, blocks);
        long before = house.getBill(0);
        house.sync(1);
        return house.getBill(0) - before;
    }

    private static void syncFromTheArm(Check check) {
        check.same("20 from its own place up", costOfSync(20, 3, 4, 5), 1 + 2 + 3);
        check.same("20 its own place is the lowest", costOfSync(19, 3, 4, 5), 1 + 2 + 2);
        check.same("20 its own place is the highest", costOfSync(21, 3, 4, 5), 1 + 3 + 2);
        check.same("20 just above the highest: from the lowest one", costOfSync(22, 3, 4, 5), 4 + 2 + 2);
        check.same("20 just below the lowest: up", costOfSync(18, 3, 4, 5), 2 + 2 + 2);
        check.same("20 at the place 0", costOfSync(0, 0, 15), 17 + 16);
        check.same("20 below all of the file", costOfSync(15, 0, 15), 2 + 16);
        check.same("20 at its first place", costOfSync(16, 0, 15), 1 + 16);
        check.same("20 at its second place", costOfSync(17, 0, 15), 15 + 16);
        check.same("20 at its last place", costOfSync(31, 0, 15), 1 + 16);
        check.same("20 above all of the file", costOfSync(32, 0, 15), 17 + 16);
        check.same("20 those below from the lowest one, not back", costOfSync(24, 0, 7, 9), 2 + 10 + 8);
        check.same("20 one page", costOfSync(31, 0), 16);
    }

    private static void syncOnFlash(Check check) {
        for (int n = 1; n <= 4; n++) {
            Writeback house = wide(1, 1, 0);
            house.read(2, 8);
            house.read(1, 8);
            write(house, 1, 15, 0, 8);
            house.failAt(n);
            check.same("20 on flash, the power fails ahead of " + n, house.sync(1), n <= 3 ? -1 : 3);
            int written = (house.onPlace(1, 0) > 0 ? 100 : 0) + (house.onPlace(1, 8) > 0 ? 10 : 0)
                    + (house.onPlace(1, 15) > 0 ? 1 : 0);
            int[] due = {0, 100, 110, 111};
            check.same("20 on flash by rising places, " + n, written, due[n - 1]);
            check.same("20 the arm of the platter stays, " + n, house.getArm(), 8);
        }
        Writeback ends = wide(1, 1, 1, 1);
        write(ends, 0, 0);
        write(ends, 3, 15);
        check.same("20 the first place of flash", ends.sync(0), 1);
        check.same("20 the last place of flash", ends.sync(3), 1);
        check.same("20 each costs 1", ends.getBill(0), 2);
    }
}
