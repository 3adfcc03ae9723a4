/** Promises 8 to 14: read, write, pin, unpin, frameOf, isDirty, onPlace, with policies, waits and reading ahead. */
public final class AccessTest extends HouseTests {
    private AccessTest() {
    }

    public static void main(String[] args) {
        Check check = new Check("AccessTest");
        readCosts(check);
        readRefusals(check);
        readByAge(check);
        readByComing(check);
        readByHand(check);
        readByHandPassesOver(check);
        readByHandFails(check);
        readFlushesAndFails(check);
        readAhead(check);
        readAheadAtTheEnd(check);
        readAheadTakesCleanPages(check);
        readAheadByHand(check);
        readAheadLeavesOthersUsed(check);
        readAheadBehindPowerFailure(check);
        write(check);
        writeRefusals(check);
        writeWaits(check);
        writeWaitsInTransaction(check);
        writeWaitsFail(check);
        pins(check);
        looks(check);
        check.end();
    }

    private static void readCosts(Check check) {
        Writeback house = houseOf(8, 0, 1, 0);
        check.same("8 a new block", house.read(0, 5), 0);
        check.same("8 cost on the platter", house.getBill(0), 6);
        check.same("8 arm", house.getArm(), 5);
        house.read(0, 5);
        check.same("8 a hit costs nothing", house.getBill(0), 6);
        house.read(1, 9);
        check.same("8 cost on flash", house.getBill(0), 7);
        check.same("8 the arm stays by flash", house.getArm(), 5);
        house.read(2, 1);
        check.same("8 the second file of the platter", house.getBill(0), 7 + 13);
        house.read(2, 0);
        check.same("8 the arm goes down", house.getBill(0), 20 + 2);
        check.same("8 lowest free frames", frames(house, 2, 1, 0), "2 3");
    }

    private static void readRefusals(Check check) {
        Writeback house = houseOf(2, 0);
        check.refused("8 file -1", BOUNDS, house, () -> house.read(-1, 0));
        check.refused("8 file 1", BOUNDS, house, () -> house.read(1, 0));
        check.refused("8 block -1", BOUNDS, house, () -> house.read(0, -1));
        check.refused("8 block 16", BOUNDS, house, () -> house.read(0, 16));
        house.damage(0, 3, 7);
        check.refused("8 damaged", STATE, house, () -> house.read(0, 3));
        reads(house, 0, 0, 1);
        house.pin(0, 0);
        house.pin(0, 1);
        check.refused("8 all are pinned", STATE, house, () -> house.read(0, 2));
        check.same("8 a hit takes no frame", house.read(0, 1), 0);
        house.damage(0, 1, 8);
        check.same("8 a hit is not read from its place", house.read(0, 1), 0);
        house.unpin(0, 0);
        house.write(0, 0, 5);
        house.failAt(1);
        check.refused("8 damaged, ahead of what could fail", STATE, house, () -> house.read(0, 3));
        house.fail();
        check.refused("8 no power", UNSUPPORTED, house, () -> house.read(0, 3));
        check.refused("8 no block ahead of no power", BOUNDS, house, () -> house.read(0, 16));
        house.powerOn();
        house.failAt(0);
        house.begin();
        house.write(0, 0, 1);
        house.write(0, 2, 1);
        check.refused("8 all are of the transaction", STATE, house, () -> house.read(0, 4));
        house.commit();
        check.same("8 they are plain then", house.read(0, 4), 0);
    }

    private static void readByAge(Check check) {
        Writeback house = houseOf(3, 0);
        reads(house, 0, 0, 4, 8, 0, 12);
        check.same("8 l: the page used longest ago", frames(house, 0, 0, 4, 8, 12), "0 -1 2 1");
        house.pin(0, 8);
        house.write(0, 0, 3);
        house.read(0, 6);
        check.same("8 l: pinned ones stay", frames(house, 0, 0, 6, 8, 12), "0 1 2 -1");
    }

    private static void readByComing(Check check) {
        Writeback house = houseOf(3, 0);
        house.setPolicy('f');
        reads(house, 0, 0, 4, 8, 0, 12);
        check.same("8 f: the page that came longest ago", frames(house, 0, 0, 4, 8, 12), "-1 1 2 0");
        house.pin(0, 4);
        house.read(0, 6);
        check.same("8 f: pinned ones stay", frames(house, 0, 4, 6, 8, 12), "1 2 -1 0");
    }

    private static void readByHand(Check check) {
        Writeback house = houseOf(3, 0);
        house.setPolicy('c');
        reads(house, 0, 0, 4, 8, 12);
        check.same("8 c: all lose, the first goes", frames(house, 0, 0, 4, 8, 12), "-1 1 2 0");
        house.read(0, 4);
        house.read(0, 6);
        check.same("8 c: the used one is passed over", frames(house, 0, 4, 6, 8, 12), "1 2 -1 0");
        house.pin(0, 4);
        house.read(0, 10);
        // The hand is at 0: that page was used as it came and loses it, 1 is pinned, 2 loses it, then 0 goes.
        check.same("8 c: a pinned one is passed over", frames(house, 0, 4, 6, 10, 12), "1 2 0 -1");
        house.unpin(0, 4);
        house.read(0, 14);
        check.same("8 c: the pinned one had lost nothing more", frames(house, 0, 4, 6, 10, 14), "-1 2 0 1");
    }

    private static void readByHandPassesOver(Check check) {
        Writeback house = houseOf(3, 0);
        house.setPolicy('c');
        reads(house, 0, 0, 4, 8, 12, 4);
        house.pin(0, 4);
        house.read(0, 6);
        house.unpin(0, 4);
        // The hand went over the pinned 4 in the frame 1 and is at 0; all three are used.
        house.read(0, 10);
        check.same("8 c: passed over, it stays used", frames(house, 0, 12, 4, 6, 10), "-1 1 2 0");
    }

    private static void readByHandFails(Check check) {
        Writeback house = houseOf(3, 0);
        house.setPolicy('c');
        for (int block : new int[] {0, 4, 8}) {
            house.write(0, block, 5);
        }
        house.failAt(1);
        check.same("8 c: the power fails", house.read(0, 12), -1);
        house.powerOn();
        reads(house, 0, 0, 4, 8, 12);
        check.same("8 c: the hand was behind the frame 0 by then", frames(house, 0, 0, 4, 8, 12), "0 -1 2 1");
    }

    private static void readFlushesAndFails(Check check) {
        Writeback house = houseOf(1, 0);
        house.write(0, 5, 50);
        check.same("8 flushes ahead of evicting", house.read(0, 2), 0);
        check.same("8 flushed", house.onPlace(0, 5), 50);
        check.same("8 costs of both", house.getBill(0), 6 + 4);
        house.write(0, 2, 20);
        house.failAt(1);
        check.same("8 the power fails", house.read(0, 5), -1);
        check.same("8 it counts also then", house.countMisses(), 3);
        check.same("8 in the trace, too", house.missesBy('l', 1), 3);
        check.same("8 no cost of what was not done", house.getBill(0), 10);
        check.same("8 no power", house.hasPower(), false);
        house.powerOn();
        check.same("8 the value of before", house.read(0, 2), 0);
        check.same("8 the flushed one", house.read(0, 5), 50);
    }

    private static void readAhead(Check check) {
        Writeback house = houseOf(8, 0, 0);
        house.setWindow(3);
        house.read(0, 0);
        check.same("8 ahead: none read last", house.countPages(), 1);
        house.read(0, 2);
        check.same("8 ahead: not the next one", house.countPages(), 2);
        house.write(0, 5, 55);
        house.read(1, 3);
        house.read(0, 3);
        check.same("8 ahead: those in frames are passed over", frames(house, 0, 3, 4, 5, 6, 7), "4 5 2 6 -1");
        check.same("8 ahead: two came", house.countAhead(), 2);
        check.same("8 ahead: costs", house.getBill(0), 1 + 3 + 18 + 17 + 2 + 3);
        house.read(0, 4);
        check.same("8 ahead: a hit brings none", house.countAhead(), 2);
        house.read(0, 5);
        house.read(0, 6);
        house.setFrames(12);
        house.read(0, 7);
        check.same("8 ahead: a hit was read last", house.countAhead(), 5);
        check.same("8 ahead: useful", house.countUseful(), 2);
        Writeback other = houseOf(8, 0);
        other.setWindow(1);
        other.write(0, 0, 1);
        other.read(0, 1);
        check.same("8 ahead: a write is no read", other.countAhead(), 0);
        other.read(0, 2);
        check.same("8 ahead: one", other.countAhead(), 1);
        other.read(0, 4);
        check.same("8 ahead: what came ahead was not read", other.countAhead(), 1);
    }

    private static void readAheadAtTheEnd(Check check) {
        Writeback house = houseOf(8, 0, 0);
        house.setWindow(4);
        reads(house, 0, 12, 13);
        check.same("8 ahead: up to 15", house.countAhead(), 2);
        check.same("8 ahead: not of the next file", house.frameOf(1, 0), -1);
        Writeback other = houseOf(8, 0);
        other.setWindow(4);
        other.damage(0, 4, 9);
        reads(other, 0, 1, 2);
        check.same("8 ahead: a damaged one ends it", frames(other, 0, 2, 3, 4, 5), "1 2 -1 -1");
        check.same("8 ahead: the arm did not go there", other.getArm(), 3);
    }

    private static void readAheadTakesCleanPages(Check check) {
        Writeback house = houseOf(4, 0);
        house.setWindow(2);
        house.write(0, 10, 1);
        reads(house, 0, 12, 0, 1);
        // Frames: 10 dirty, 12, 0, 1. For 2 the page 12 goes, for 3 the page 0.
        check.same("8 ahead: clean ones go", frames(house, 0, 10, 1, 2, 3), "0 3 1 2");
        house.pin(0, 2);
        house.pin(0, 3);
        house.read(0, 6);
        house.pin(0, 6);
        // Pinned: 2, 3, 6 in the frames 1, 2, 0; the frame 3 has 1, clean.
        check.same("8 the dirty one was used longest ago", frames(house, 0, 10, 6, 1), "-1 0 3");
        house.read(0, 7);
        check.same("8 ahead: not the page that was read", frames(house, 0, 7, 8), "3 -1");
        check.same("8 ahead: no more came", house.countAhead(), 2);
        Writeback other = houseOf(2, 0);
        other.setWindow(3);
        reads(other, 0, 0, 1);
        check.same("8 ahead: what came ahead can go", frames(other, 0, 0, 1, 2, 3, 4), "-1 1 -1 -1 0");
        check.same("8 ahead: three came", other.countAhead(), 3);
        Writeback third = houseOf(2, 0);
        third.setWindow(1);
        third.write(0, 9, 9);
        reads(third, 0, 0, 1);
        check.same("8 ahead: by l the dirty one was the oldest", frames(third, 0, 9, 0, 1, 2), "-1 -1 0 1");
        third.write(0, 2, 5);
        third.read(0, 2);
        third.read(0, 3);
        check.same("8 ahead: a dirty one does not go", frames(third, 0, 2, 3, 4), "1 0 -1");
    }

    private static void readAheadByHand(Check check) {
        Writeback house = houseOf(4, 0);
        house.setPolicy('c');
        house.setWindow(1);
        house.write(0, 10, 1);
        reads(house, 0, 12, 14, 0);
        house.damage(0, 2, 5);
        house.read(0, 1);
        // All lose, the frame 0 goes with its flush, the hand is at 1; a damaged block moves no hand.
        check.same("8 ahead by hand: the read", frames(house, 0, 10, 1, 12), "-1 0 1");
        check.same("8 ahead by hand: ended", house.countAhead(), 0);
        house.read(0, 5);
        check.same("8 ahead by hand: the hand was at 1", frames(house, 0, 5, 12), "1 -1");
        house.write(0, 14, 3);
        house.read(0, 6);
        // The hand at 2: 14 loses, 0 goes from the frame 3; then the hand at 0: 1 loses, 5 loses, 14 is dirty and
        // 6 aside, then 1 goes.
        check.same("8 ahead by hand: dirty ones are passed over", frames(house, 0, 6, 7, 14, 1), "3 0 2 -1");
    }

    private static void readAheadLeavesOthersUsed(Check check) {
        Writeback house = houseOf(3, 0);
        house.setPolicy('c');
        house.setWindow(1);
        house.write(0, 10, 1);
        reads(house, 0, 0, 1, 1);
        check.same("8 ahead by hand: in the frame of the clean one", frames(house, 0, 10, 1, 2), "0 2 1");
        house.read(0, 14);
        // The hand at 2: 1, 10 and 2 lose, then 1 goes.
        check.same("8 ahead by hand: the dirty one stayed used", frames(house, 0, 10, 1, 2, 14), "0 -1 1 2");
    }

    /** Reads the block 3 and then, with the power failing in the eviction for it, the block 9. */
    private static Writeback failedRead(Check check, int window) {
        Writeback house = houseOf(1, 0, 0);
        house.setWindow(window);
        house.read(0, 3);
        house.write(1, 0, 5);
        house.failAt(1);
        check.same("8 ahead: the power fails in a read", house.read(0, 9), -1);
        house.powerOn();
        house.setFrames(8);
        return house;
    }

    private static void readAheadBehindPowerFailure(Check check) {
        Writeback house = failedRead(check, 2);
        check.same("8 ahead: none came as the power failed", house.countAhead(), 0);
        house.read(0, 4);
        check.same("8 ahead: the one ahead of the failed read is not the last", house.countAhead(), 0);
        Writeback other = failedRead(check, 2);
        other.read(0, 10);
        check.same("8 ahead: the failed read was the last", frames(other, 0, 10, 11, 12, 13), "0 1 2 -1");
        Writeback third = failedRead(check, 2);
        third.read(1, 10);
        check.same("8 ahead: it was one of its own file", third.countAhead(), 0);
        third.read(1, 1);
        third.read(0, 10);
        check.same("8 ahead: reads of another file do not matter", third.countAhead(), 2);
        Writeback fourth = failedRead(check, 2);
        fourth.read(0, 9);
        fourth.read(0, 10);
        check.same("8 ahead: read again, only the next one counts", fourth.countAhead(), 2);
        Writeback first = houseOf(1, 0, 0);
        first.setWindow(1);
        first.write(1, 0, 5);
        first.failAt(1);
        first.read(0, 0);
        first.powerOn();
        first.setFrames(2);
        first.read(0, 1);
        check.same("8 ahead: the first read of a file failed", frames(first, 0, 1, 2), "0 1");
        Writeback written = houseOf(1, 0, 0);
        written.setWindow(1);
        written.read(0, 3);
        written.write(1, 0, 5);
        written.failAt(1);
        written.write(0, 9, 5);
        written.powerOn();
        written.setFrames(8);
        written.read(0, 10);
        check.same("8 ahead: a write in which the power fails is no read", written.countAhead(), 0);
        written.read(0, 4);
        written.read(0, 5);
        check.same("8 ahead: reads go on behind it", frames(written, 0, 5, 6), "2 3");
        Writeback thrown = houseOf(2, 0);
        thrown.setWindow(1);
        thrown.read(0, 3);
        thrown.damage(0, 9, 1);
        check.refused("8 ahead: a damaged block", STATE, thrown, () -> thrown.read(0, 9));
        thrown.damage(0, 9, 0);
        thrown.read(0, 10);
        check.same("8 ahead: what threw was not read", thrown.countAhead(), 0);
        Writeback after = houseOf(8, 0);
        after.setWindow(1);
        after.read(0, 3);
        after.damage(0, 9, 1);
        check.refused("8 ahead: a damaged block again", STATE, after, () -> after.read(0, 9));
        after.read(0, 4);
        check.same("8 ahead: the one ahead of what threw stays the last", after.countAhead(), 1);
    }

    private static void write(Check check) {
        Writeback house = houseOf(8, 0, 1);
        check.same("9 waits", house.write(0, 15, 9999), 0);
        check.same("9 needs no reading", house.getBill(0), 0);
        check.same("9 dirty", house.isDirty(0, 15), true);
        check.same("9 not on its place", house.onPlace(0, 15), 0);
        check.same("9 a miss", house.countMisses(), 1);
        check.same("9 read", house.read(0, 15), 9999);
        check.same("9 a hit", house.countHits(), 1);
        check.same("9 the least value", house.write(0, 15, 0), 0);
        check.same("9 also the same value is dirty", house.countDirty(), 1);
        house.damage(1, 2, 44);
        check.same("9 a damaged block", house.write(1, 2, 45), 0);
        house.sync(1);
        check.same("9 written anew both are right", house.scrub(1), 0);
        check.same("9 its value", house.onPlace(1, 2), 45);
    }

    private static void writeRefusals(Check check) {
        Writeback house = houseOf(1, 0);
        check.refused("9 file 1", BOUNDS, house, () -> house.write(1, 0, 0));
        check.refused("9 file -1", BOUNDS, house, () -> house.write(-1, 0, 0));
        check.refused("9 block 16", BOUNDS, house, () -> house.write(0, 16, 10000));
        check.refused("9 block -1", BOUNDS, house, () -> house.write(0, -1, 0));
        check.refused("9 value -1", ARGUMENT, house, () -> house.write(0, 0, -1));
        check.refused("9 value 10000", ARGUMENT, house, () -> house.write(0, 0, 10000));
        house.read(0, 0);
        house.pin(0, 0);
        check.refused("9 no frame", STATE, house, () -> house.write(0, 1, 1));
        check.same("9 the pinned page itself", house.write(0, 0, 1), 0);
        house.fail();
        check.refused("9 no power", UNSUPPORTED, house, () -> house.write(0, 1, 1));
        check.refused("9 a wrong value ahead of no power", ARGUMENT, house, () -> house.write(0, 1, -1));
        Writeback other = houseOf(16, 0);
        other.setLimit(16);
        other.begin();
        for (int block = 0; block < 6; block++) {
            other.write(0, block, 1);
        }
        check.refused("9 a 7th block", STATE, other, () -> other.write(0, 6, 1));
        other.read(0, 7);
        check.refused("9 a 7th block, in a frame", STATE, other, () -> other.write(0, 7, 1));
        check.same("9 one of the six again", other.write(0, 5, 2), 0);
        other.commit();
        check.same("9 behind it", other.write(0, 6, 1), 0);
    }

    private static void writeWaits(Check check) {
        Writeback house = houseOf(8, 0);
        house.setLimit(2);
        house.write(0, 3, 1);
        house.write(0, 1, 2);
        check.same("9 written again, no wait", house.write(0, 3, 3), 0);
        check.same("9 one wait", house.write(0, 2, 4), 1);
        check.same("9 dirty longest, not written longest ago", house.onPlace(0, 3), 3);
        check.same("9 clean then", house.isDirty(0, 3), false);
        check.same("9 still in its frame", house.frameOf(0, 3), 0);
        check.same("9 cost", house.getBill(0), 4);
        check.same("9 waits counted", house.countWaits(), 1);
        house.write(0, 3, 5);
        check.same("9 then the next one", house.onPlace(0, 1), 2);
        house.begin();
        house.write(0, 2, 6);
        house.write(0, 4, 7);
        check.same("9 of the transaction none is counted", house.countWaits(), 2);
        house.write(0, 5, 8);
        check.same("9 nor flushed", house.countDirty(), 4);
        house.commit();
        check.same("9 dirty since ahead of the transaction", house.write(0, 6, 9), 3);
        check.same("9 the last two stay", house.isDirty(0, 5) && house.isDirty(0, 6), true);
        check.same("9 the first ones went", house.onPlace(0, 2) * 100 + house.onPlace(0, 3) * 10 + house.onPlace(0, 4),
                657);
        check.same("9 waits counted again", house.countWaits(), 5);
        house.pin(0, 5);
        check.same("9 a pinned one is flushed", house.write(0, 7, 1), 1);
        check.same("9 it was", house.onPlace(0, 5), 8);
    }

    private static void writeWaitsInTransaction(Check check) {
        Writeback house = houseOf(8, 0);
        house.write(0, 1, 1);
        house.write(0, 2, 2);
        house.setLimit(1);
        check.same("9 not by the limit being set", house.countDirty(), 2);
        house.begin();
        check.same("9 a write of the transaction waits, too", house.write(0, 3, 3), 1);
        check.same("9 for the one that is dirty longest", house.onPlace(0, 1), 1);
        check.same("9 only plain ones are counted", house.write(0, 4, 4), 0);
    }

    private static void writeWaitsFail(Check check) {
        Writeback house = houseOf(8, 0);
        house.setLimit(1);
        house.write(0, 3, 1);
        house.failAt(1);
        check.same("9 the power fails", house.write(0, 4, 1), -1);
        check.same("9 it did not wait", house.countWaits(), 0);
        check.same("9 it counts", house.countMisses(), 2);
        check.same("9 lost", house.countPages(), 0);
        house.powerOn();
        house.setFrames(1);
        house.write(0, 3, 1);
        house.failAt(1);
        check.same("9 the power fails by evicting", house.write(0, 4, 1), -1);
        check.same("9 it counts, too", house.countMisses(), 4);
    }

    private static void pins(Check check) {
        Writeback house = houseOf(2, 0, 0);
        check.refused("10 file 2", BOUNDS, house, () -> house.pin(2, 0));
        check.refused("10 block 16", BOUNDS, house, () -> house.pin(0, 16));
        check.refused("10 in no frame", NO_ELEMENT, house, () -> house.pin(0, 1));
        check.refused("11 file -1", BOUNDS, house, () -> house.unpin(-1, 0));
        check.refused("11 block -1", BOUNDS, house, () -> house.unpin(0, -1));
        check.refused("11 in no frame", NO_ELEMENT, house, () -> house.unpin(0, 1));
        house.read(0, 1);
        check.refused("11 not pinned", NO_ELEMENT, house, () -> house.unpin(0, 1));
        check.same("10 once", house.pin(0, 1), 1);
        check.same("10 once more", house.pin(0, 1), 2);
        check.same("11 once less", house.unpin(0, 1), 1);
        reads(house, 1, 0, 5, 9);
        check.same("10 it stays", house.frameOf(0, 1), 0);
        check.same("11 not pinned any more", house.unpin(0, 1), 0);
        check.refused("11 not again", NO_ELEMENT, house, () -> house.unpin(0, 1));
        house.read(1, 0);
        check.same("11 it can be evicted", house.frameOf(0, 1), -1);
        house.pin(1, 0);
        house.fail();
        check.refused("10 without power nothing is in a frame", NO_ELEMENT, house, () -> house.pin(1, 0));
        house.powerOn();
        house.read(1, 0);
        check.refused("11 pins are lost with the power", NO_ELEMENT, house, () -> house.unpin(1, 0));
    }

    private static void looks(Check check) {
        Writeback house = houseOf(2, 0, 1);
        check.refused("12 file 2", BOUNDS, house, () -> house.frameOf(2, 0));
        check.refused("12 block 16", BOUNDS, house, () -> house.frameOf(0, 16));
        check.refused("13 file -1", BOUNDS, house, () -> house.isDirty(-1, 0));
        check.refused("13 block -1", BOUNDS, house, () -> house.isDirty(0, -1));
        check.refused("14 file 2", BOUNDS, house, () -> house.onPlace(2, 15));
        check.refused("14 block 16", BOUNDS, house, () -> house.onPlace(1, 16));
        check.same("12 none", house.frameOf(1, 15), -1);
        check.same("13 in no frame", house.isDirty(1, 15), false);
        house.read(1, 14);
        house.write(1, 15, 4);
        check.same("12 frame 1", house.frameOf(1, 15), 1);
        check.same("13 dirty", house.isDirty(1, 15), true);
        check.same("13 clean", house.isDirty(1, 14), false);
        check.same("14 not yet", house.onPlace(1, 15), 0);
        house.checkpoint();
        check.same("13 flushed", house.isDirty(1, 15), false);
        check.same("14 on its place", house.onPlace(1, 15), 4);
        house.damage(1, 15, 5);
        check.same("14 damaged or not", house.onPlace(1, 15), 5);
        check.same("12 a look does not use a page", house.frameOf(1, 14), 0);
        house.read(0, 0);
        check.same("12 so that it went", house.frameOf(1, 14), -1);
        house.fail();
        check.same("12 without power", house.frameOf(1, 15), -1);
        check.same("14 without power", house.onPlace(1, 15), 5);
    }
}
