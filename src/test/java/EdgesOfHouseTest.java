/** Boundary cases of promises 1 to 14 but for reading ahead: files, places, costs, frames, policies, the limit. */
public final class EdgesOfHouseTest extends HouseTests {
    private EdgesOfHouseTest() {
    }

    public static void main(String[] args) {
        Check check = new Check("EdgesOfHouseTest");
        nothingYet(check);
        fourFilesOnEach(check);
        placesOfFiles(check);
        firstValues(check);
        armAtTheEnds(check);
        flashAtTheEnds(check);
        eightFramesAtFirst(check);
        fullFrames(check);
        lowestFreeFrame(check);
        noPageCanGo(check);
        noPageOfAllCanGo(check);
        hitsNeedNoRoom(check);
        pinsCount(check);
        uses(check);
        comings(check);
        handAtFirst(check);
        handRoundAndRound(check);
        handPassesOverTheTransaction(check);
        handAsFramesChange(check);
        framesGo(check);
        framesAreHeld(check);
        limitAtFirst(check);
        limitAtItsEnds(check);
        limitHoldsFromTheNextWriteOn(check);
        limitIsOfPlainPages(check);
        dirtyLongest(check);
        damageAndFrames(check);
        check.end();
    }

    private static Writeback fullOfFiles() {
        return house(0, 0, 0, 0, 1, 1, 1, 1);
    }

    private static void nothingYet(Check check) {
        Writeback house = new Writeback();
        check.same("1 counts", house.countHits() + house.countMisses() + house.countWaits() + house.countAhead()
                + house.countUseful() + house.countPages() + house.countDirty() + house.countLog()
                + house.countWritten(), 0);
        for (int place = 0; place < 64; place++) {
            check.same("1 wear of " + place, house.getWear(place), 0);
        }
        for (int tenant = 0; tenant < 3; tenant++) {
            check.same("1 bill of " + tenant, house.getBill(tenant), 0);
        }
        check.same("1 damaged", house.scrub(0) + house.scrub(1), 0);
        check.refused("1 no image", BOUNDS, house, () -> house.layBack(0, 0));
        check.refused("1 no file to read", BOUNDS, house, () -> house.read(0, 0));
        check.refused("1 no file to write", BOUNDS, house, () -> house.write(0, 0, 0));
        check.refused("1 no file to sync", BOUNDS, house, () -> house.sync(0));
        check.refused("1 no transaction to commit", UNSUPPORTED, house, house::commit);
        check.refused("1 no transaction to abort", UNSUPPORTED, house, house::abort);
        check.refused("1 there is power", UNSUPPORTED, house, house::powerOn);
        check.refused("1 no share", ARITHMETIC, house, house::getHitShare);
        for (char policy : new char[] {'l', 'f', 'c', 'b'}) {
            check.same("1 no misses by " + policy, house.missesBy(policy, 1) + house.missesBy(policy, 16), 0);
        }
        check.same("1 one frame for no misses", house.framesFor(0), 1);
        check.same("1 checkpoint of nothing", house.checkpoint(), 0);
        check.same("1 fail without pages", house.fail(), 0);
        check.same("1 no log to come back", house.powerOn(), 0);
        check.same("1 the first transaction", house.begin(), 1);
        check.same("1 of nothing", house.abort(), 0);
        check.same("1 the first image", house.keepImage(1), 0);
        check.same("1 the first file", house.addFile(1), 0);
    }

    private static void fourFilesOnEach(Check check) {
        for (int device = 0; device < 2; device++) {
            int full = device;
            Writeback house = new Writeback();
            for (int i = 0; i < 4; i++) {
                check.same("2 file " + i + " of four", house.addFile(device), i);
            }
            check.refused("2 a 5th on device " + device, STATE, house, () -> house.addFile(full));
            check.refused("2 there is no file 4", BOUNDS, house, () -> house.onPlace(4, 0));
            for (int i = 4; i < 8; i++) {
                check.same("2 the other one takes file " + i, house.addFile(1 - device), i);
            }
            check.refused("2 a 9th on device 0", STATE, house, () -> house.addFile(0));
            check.refused("2 a 9th on device 1", STATE, house, () -> house.addFile(1));
            check.same("2 the 8th is there", house.onPlace(7, 15), 0);
            check.refused("2 there is no file 8", BOUNDS, house, () -> house.onPlace(8, 0));
        }
    }

    private static void placesOfFiles(Check check) {
        int[] devices = {1, 0, 0, 1, 1, 0, 1, 0};
        int[] came = new int[2];
        Writeback house = house(devices);
        for (int file = 0; file < 8; file++) {
            int home = 16 * came[devices[file]]++;
            if (devices[file] == 0) {
                house.read(file, 0);
                check.same("2 first place of file " + file, house.getArm(), home);
                house.read(file, 15);
                check.same("2 last place of file " + file, house.getArm(), home + 15);
            } else {
                house.write(file, 0, 1);
                house.write(file, 15, 2);
                house.write(file, 15, 3);
                house.sync(file);
                house.write(file, 15, 4);
                house.sync(file);
                check.same("2 first place of file " + file, house.getWear(home), 1);
                check.same("2 last place of file " + file, house.getWear(home + 15), 2);
            }
        }
    }

    private static void firstValues(Check check) {
        Writeback house = fullOfFiles();
        for (int file = 0; file < 8; file++) {
            for (int block = 0; block < 16; block++) {
                check.same("1 value at first of " + file + " " + block, house.onPlace(file, block), 0);
                check.same("8 it is read, " + file + " " + block, house.read(file, block), 0);
            }
        }
    }

    private static void armAtTheEnds(Check check) {
        Writeback house = houseOf(1, 0, 0, 0, 0);
        house.read(0, 0);
        check.same("8 over no places", house.getBill(0), 1);
        house.read(3, 15);
        check.same("8 over all places, up", house.getBill(0), 1 + 64);
        check.same("32 the last place", house.getArm(), 63);
        house.read(0, 0);
        check.same("8 over all places, down", house.getBill(0), 65 + 64);
        house.read(0, 1);
        check.same("8 over one place", house.getBill(0), 129 + 2);
        house.write(0, 9, 1);
        check.same("9 a write that finds a frame moves nothing", house.getArm(), 1);
        house.write(0, 1, 1);
        check.same("9 a flush to evict does", house.getArm(), 9);
        check.same("9 at its cost", house.getBill(0), 131 + 9);
        house.read(0, 2);
        check.same("8 the flush, then the reading", house.getBill(0), 140 + 9 + 2);
        house.sync(0);
        house.write(0, 2, 1);
        house.sync(0);
        check.same("20 where the arm is by then", house.getBill(0), 151 + 1);
        Writeback first = houseOf(1, 0, 0, 0, 0);
        first.read(3, 15);
        check.same("8 the arm was at the place 0", first.getBill(0), 64);
    }

    private static void flashAtTheEnds(Check check) {
        Writeback house = houseOf(1, 1, 1, 1, 1, 0);
        house.read(4, 7);
        check.same("8 the platter", house.getBill(0), 8);
        house.read(0, 0);
        check.same("8 the first place of flash", house.getBill(0), 9);
        house.read(3, 15);
        check.same("8 the last one", house.getBill(0), 10);
        house.write(3, 15, 1);
        house.read(0, 0);
        check.same("8 flushed and read", house.getBill(0), 12);
        check.same("32 the arm stays", house.getArm(), 7);
        check.same("38 the last place was written", house.getWear(63), 1);
        check.same("38 the first one was read alone", house.getWear(0), 0);
    }

    private static void eightFramesAtFirst(Check check) {
        Writeback house = house(0);
        for (int block = 0; block < 8; block++) {
            house.read(0, block);
            check.same("8 page " + block, house.frameOf(0, block), block);
        }
        check.same("3 none has gone", house.countPages(), 8);
        house.read(0, 8);
        check.same("3 the 9th page takes the first one's frame", frames(house, 0, 0, 8), "-1 0");
        check.same("3 eight are in frames", house.countPages(), 8);
    }

    private static void fullFrames(Check check) {
        for (int count : new int[] {1, 2, 15, 16}) {
            Writeback house = houseOf(count, 0, 0);
            for (int block = 0; block < count; block++) {
                house.read(0, block);
            }
            check.same("8 as many pages as frames, " + count, house.countPages(), count);
            check.same("8 the last frame of " + count, house.frameOf(0, count - 1), count - 1);
            house.read(1, 0);
            check.same("8 one more than " + count, house.countPages(), count);
            check.same("8 the oldest one of " + count, frames(house, 0, 0), "-1");
            check.same("8 its frame, of " + count, house.frameOf(1, 0), 0);
            house.write(1, 1, 5);
            check.same("9 a write takes one, too, of " + count, house.frameOf(1, 1), count == 1 ? 0 : 1);
        }
    }

    private static void lowestFreeFrame(Check check) {
        Writeback house = houseOf(5, 0);
        house.read(0, 0);
        house.begin();
        house.write(0, 1, 1);
        house.write(0, 2, 1);
        house.read(0, 3);
        house.write(0, 4, 1);
        house.abort();
        check.same("17 three are free", house.countPages(), 2);
        reads(house, 0, 8, 10, 12);
        check.same("8 the lowest one each time", frames(house, 0, 0, 8, 10, 3, 12), "0 1 2 3 4");
        house.read(0, 14);
        check.same("8 none is free then", frames(house, 0, 0, 14), "-1 0");
    }

    private static void noPageCanGo(Check check) {
        Writeback house = houseOf(3, 0);
        house.read(0, 0);
        house.pin(0, 0);
        house.begin();
        house.write(0, 1, 1);
        house.write(0, 2, 1);
        check.refused("8 pinned and of the transaction", STATE, house, () -> house.read(0, 4));
        check.refused("9 pinned and of the transaction", STATE, house, () -> house.write(0, 4, 1));
        house.pin(0, 1);
        house.commit();
        check.same("8 one of three can go", house.read(0, 4), 0);
        check.same("8 that one", frames(house, 0, 0, 1, 2, 4), "0 1 -1 2");
        house.pin(0, 4);
        check.refused("8 all are pinned", STATE, house, () -> house.read(0, 6));
        check.refused("9 all are pinned", STATE, house, () -> house.write(0, 6, 1));
        house.setFrames(4);
        check.same("8 but one frame is free", house.read(0, 6), 0);
        check.same("8 it takes that", house.frameOf(0, 6), 3);
        Writeback one = houseOf(1, 0);
        one.read(0, 0);
        one.pin(0, 0);
        check.refused("8 the only one is pinned", STATE, one, () -> one.read(0, 1));
        one.unpin(0, 0);
        check.same("8 not any more", one.read(0, 1), 0);
    }

    private static void noPageOfAllCanGo(Check check) {
        for (int count = 1; count <= 16; count++) {
            Writeback house = houseOf(count, 0, 0);
            for (int block = 0; block < count; block++) {
                house.write(0, block, 1);
                house.pin(0, block);
            }
            check.refused("8 all are pinned, " + count, STATE, house, () -> house.read(1, 0));
            check.refused("9 all are pinned, " + count, STATE, house, () -> house.write(1, 0, 1));
            house.unpin(0, count - 1);
            check.same("8 the last one is not, " + count, house.read(1, 0), 0);
            check.same("8 it went, " + count, house.frameOf(1, 0), count - 1);
        }
        Writeback six = houseOf(6, 0);
        six.begin();
        for (int block = 0; block < 6; block++) {
            six.write(0, block, 1);
        }
        check.refused("8 all are of the transaction", STATE, six, () -> six.read(0, 6));
        six.setFrames(7);
        check.same("8 one frame more", six.read(0, 6), 0);
        check.same("8 that page goes for the next", six.read(0, 7) + six.frameOf(0, 7), 6);
    }

    private static void hitsNeedNoRoom(Check check) {
        Writeback house = houseOf(2, 0);
        house.read(0, 0);
        house.write(0, 1, 6);
        house.pin(0, 0);
        house.pin(0, 1);
        check.same("8 of the frame 0", house.read(0, 0), 0);
        check.same("8 of the frame 1", house.read(0, 1), 6);
        check.same("9 of the frame 0", house.write(0, 0, 7), 0);
        check.same("9 of the frame 1", house.write(0, 1, 8), 0);
        check.same("9 both are written", house.read(0, 0) * 10 + house.read(0, 1), 78);
    }

    private static void pinsCount(Check check) {
        Writeback house = houseOf(1, 0);
        house.read(0, 0);
        for (int times = 1; times <= 100; times++) {
            check.same("10 pinned " + times, house.pin(0, 0), times);
        }
        for (int times = 99; times >= 1; times--) {
            check.same("11 still pinned " + times, house.unpin(0, 0), times);
        }
        check.refused("10 once is enough", STATE, house, () -> house.read(0, 1));
        check.same("11 the last one", house.unpin(0, 0), 0);
        check.refused("11 below 0", NO_ELEMENT, house, () -> house.unpin(0, 0));
        house.pin(0, 0);
        house.begin();
        house.write(0, 0, 1);
        house.commit();
        house.sync(0);
        check.same("11 neither a commit nor a flush takes it off", house.unpin(0, 0), 0);
        house.read(0, 1);
        house.read(0, 0);
        check.refused("11 come anew it is not pinned", NO_ELEMENT, house, () -> house.unpin(0, 0));
    }

    private static void uses(Check check) {
        Writeback read = houseOf(2, 0);
        reads(read, 0, 0, 2, 0, 4);
        check.same("8 l: used by a hit", frames(read, 0, 0, 2, 4), "0 -1 1");
        Writeback written = houseOf(2, 0);
        reads(written, 0, 0, 2);
        written.write(0, 0, 1);
        written.read(0, 4);
        check.same("8 l: used by being written", frames(written, 0, 0, 2, 4), "0 -1 1");
        Writeback looked = houseOf(2, 0);
        reads(looked, 0, 0, 2);
        looked.pin(0, 0);
        looked.unpin(0, 0);
        looked.frameOf(0, 0);
        looked.isDirty(0, 0);
        looked.sync(0);
        looked.read(0, 4);
        check.same("8 l: not by anything else", frames(looked, 0, 0, 2, 4), "-1 1 0");
        Writeback aborted = houseOf(2, 0);
        reads(aborted, 0, 0, 2);
        aborted.begin();
        aborted.write(0, 0, 1);
        aborted.abort();
        aborted.read(0, 4);
        check.same("17 l: what is aborted was used", frames(aborted, 0, 0, 2, 4), "0 -1 1");
    }

    private static void comings(Check check) {
        Writeback house = houseOf(2, 0);
        house.setPolicy('f');
        reads(house, 0, 0, 2, 0, 0, 4);
        check.same("8 f: uses do not matter", frames(house, 0, 0, 2, 4), "-1 1 0");
        house.read(0, 0);
        check.same("8 f: come anew it is the last one", frames(house, 0, 0, 2, 4), "1 -1 0");
        house.write(0, 6, 1);
        check.same("8 f: in the order of coming, not of frames", frames(house, 0, 0, 4, 6), "1 -1 0");
        house.read(0, 8);
        check.same("8 f: that which was written came later", frames(house, 0, 0, 6, 8), "-1 0 1");
    }

    private static void handAtFirst(Check check) {
        Writeback one = houseOf(1, 0);
        one.setPolicy('c');
        reads(one, 0, 0, 2, 4, 4, 6);
        check.same("8 c: one frame, round and round", frames(one, 0, 4, 6), "-1 0");
        Writeback late = houseOf(3, 0);
        reads(late, 0, 0, 2, 4, 6, 8);
        check.same("8 l took the frames 0 and 1", frames(late, 0, 4, 6, 8), "2 0 1");
        late.setPolicy('c');
        late.read(0, 10);
        check.same("8 c: no other policy moves the hand", frames(late, 0, 10), "0");
        late.setPolicy('f');
        late.read(0, 12);
        check.same("8 f: took the frame 2", frames(late, 0, 12), "2");
        late.setPolicy('c');
        late.read(0, 14);
        check.same("8 c: the hand is where it was", frames(late, 0, 8, 14), "-1 1");
        Writeback full = houseOf(16, 0, 0);
        full.setPolicy('c');
        for (int block = 0; block < 16; block++) {
            full.read(0, block);
        }
        for (int block = 0; block < 16; block++) {
            full.read(1, block);
            check.same("8 c: sixteen frames, " + block, full.frameOf(1, block), block);
        }
        full.read(0, 0);
        check.same("8 c: behind the last frame is the first", full.frameOf(0, 0), 0);
    }

    /** Four frames with every other block; the hand is at the frame told, the pages from there on were not used. */
    private static Writeback withHandAt(int hand) {
        Writeback house = houseOf(4, 0, 0);
        house.setPolicy('c');
        reads(house, 0, 0, 2, 4, 6);
        for (int i = 0; i < hand; i++) {
            house.read(0, 8 + 2 * i);
        }
        return house;
    }

    private static void handRoundAndRound(Check check) {
        Writeback house = withHandAt(3);
        check.same("8 c: three went", frames(house, 0, 8, 10, 12, 6), "0 1 2 3");
        reads(house, 0, 6);
        house.pin(0, 8);
        house.read(1, 0);
        // 6 loses it, 8 is pinned, 10 and 12 lose it, then 6 goes from the frame 3.
        check.same("8 c: round to its own frame", frames(house, 0, 8, 10, 12, 6), "0 1 2 -1");
        check.same("8 c: the last frame", house.frameOf(1, 0), 3);
        house.unpin(0, 8);
        house.read(1, 2);
        // The hand is at 0: 8 is still used as it was pinned then, 10 is not.
        check.same("8 c: behind the last frame, at the first", frames(house, 0, 8, 10, 12), "0 -1 2");
        Writeback other = withHandAt(1);
        other.pin(0, 2);
        other.pin(0, 4);
        other.pin(0, 6);
        other.read(1, 0);
        check.same("8 c: only one can go", other.frameOf(1, 0), 0);
        other.read(1, 2);
        check.same("8 c: and once more", other.frameOf(1, 2), 0);
    }

    private static void handPassesOverTheTransaction(Check check) {
        Writeback house = withHandAt(1);
        house.begin();
        house.write(0, 2, 1);
        house.read(1, 0);
        check.same("8 c: one of the transaction is passed over", house.frameOf(1, 0), 2);
        house.commit();
        reads(house, 0, 6);
        house.read(1, 2);
        // The hand at 3: 6 loses it, 8 loses it, 2 loses it as it was passed over, (1, 0) loses it, then 6 goes.
        check.same("8 c: it stayed used by that", house.frameOf(1, 2), 3);
        check.same("8 c: the others stay", frames(house, 0, 8, 2, 6), "0 1 -1");
    }

    private static void handAsFramesChange(Check check) {
        Writeback within = withHandAt(2);
        within.setFrames(3);
        within.read(0, 4);
        within.read(1, 0);
        check.same("3 a hand at the last frame stays", within.frameOf(1, 0), 2);
        Writeback behind = withHandAt(2);
        behind.setFrames(2);
        behind.read(1, 0);
        check.same("3 a hand just behind them goes to 0", behind.frameOf(1, 0), 0);
        Writeback further = withHandAt(3);
        further.setFrames(2);
        further.read(1, 0);
        check.same("3 a hand further behind them goes to 0, too", further.frameOf(1, 0), 0);
        Writeback again = withHandAt(2);
        again.setFrames(2);
        again.setFrames(4);
        reads(again, 1, 0, 2, 4);
        check.same("3 it stays there as they are more again", again.frameOf(1, 4), 0);
        Writeback more = withHandAt(2);
        more.setFrames(6);
        reads(more, 0, 4, 6);
        reads(more, 1, 0, 2, 4);
        check.same("3 more frames leave the hand", more.frameOf(1, 4), 2);
        Writeback same = withHandAt(3);
        same.setFrames(4);
        same.read(0, 6);
        same.read(1, 0);
        check.same("3 as many frames leave the hand", same.frameOf(1, 0), 3);
        Writeback one = withHandAt(3);
        one.setFrames(1);
        one.setFrames(4);
        reads(one, 1, 0, 2, 4, 6);
        check.same("3 with one frame the hand is at 0", one.frameOf(1, 6), 0);
    }

    private static void framesGo(Check check) {
        Writeback house = houseOf(16, 0);
        house.setLimit(16);
        for (int block = 0; block < 16; block++) {
            house.write(0, 15 - block, block);
        }
        check.same("3 sixteen to fifteen", house.setFrames(15), 16);
        check.same("3 only the highest frame's page goes", frames(house, 0, 0, 1), "-1 14");
        check.same("3 it is flushed", house.onPlace(0, 0) * 100 + house.countDirty(), 1515);
        check.same("3 fifteen to one", house.setFrames(1), 15);
        check.same("3 one page stays, dirty", frames(house, 0, 14, 15), "-1 0");
        check.same("3 it was not flushed", house.onPlace(0, 15) * 100 + house.countDirty(), 1);
        check.same("3 the lowest frame's went last", house.getArm(), 14);
        check.same("3 each over one place", house.getBill(0), 1 + 14 * 2);
        check.same("3 no waits by that", house.countWaits(), 0);
        check.same("3 to as many again", house.setFrames(1), 1);
        Writeback empty = houseOf(3, 0);
        check.same("3 empty frames go", empty.setFrames(1), 3);
        check.same("3 at no cost", empty.getBill(0), 0);
        Writeback late = houseOf(3, 0);
        late.read(0, 0);
        late.setFrames(4);
        reads(late, 0, 2, 4, 6, 8);
        check.same("3 a frame more is taken last", frames(late, 0, 2, 4, 6, 8), "1 2 3 0");
    }

    private static void framesAreHeld(Check check) {
        Writeback house = houseOf(4, 0);
        reads(house, 0, 0, 2, 4, 6);
        house.pin(0, 6);
        check.refused("3 the highest is pinned", STATE, house, () -> house.setFrames(3));
        check.same("3 no frame less is asked", house.setFrames(4), 4);
        house.unpin(0, 6);
        house.pin(0, 4);
        check.same("3 a pinned one in the last frame left", house.setFrames(3), 4);
        check.refused("3 not behind it", STATE, house, () -> house.setFrames(2));
        check.refused("3 nor further", STATE, house, () -> house.setFrames(1));
        Writeback other = houseOf(4, 0);
        other.read(0, 0);
        other.begin();
        other.write(0, 2, 1);
        check.same("3 one of the transaction in the last frame left", other.setFrames(2), 4);
        check.refused("3 of the transaction, behind them", STATE, other, () -> other.setFrames(1));
        other.commit();
        check.same("3 a plain one then", other.setFrames(1), 2);
        check.same("3 flushed out of the log", other.countLog() * 10 + other.onPlace(0, 2), 1);
    }

    private static int writes(Writeback house, int file, int from, int end) {
        int waits = 0;
        for (int block = from; block < end; block++) {
            waits += house.write(file, block, 7);
        }
        return waits;
    }

    private static void limitAtFirst(Check check) {
        Writeback house = house(0);
        check.same("9 four dirty pages at first", writes(house, 0, 0, 4), 0);
        check.same("9 the fifth waits", house.write(0, 4, 7), 1);
        check.same("9 four are dirty", house.countDirty(), 4);
        check.same("9 one wait", house.countWaits(), 1);
    }

    private static void limitAtItsEnds(Check check) {
        for (int limit = 1; limit <= 16; limit++) {
            Writeback house = houseOf(16, 0, 0);
            house.setLimit(limit);
            check.same("9 as many as the limit, " + limit, writes(house, 0, 0, limit), 0);
            check.same("9 all are dirty, " + limit, house.countDirty(), limit);
            check.same("9 written again, " + limit, writes(house, 0, 0, limit), 0);
            check.same("9 one more than " + limit, house.write(1, 0, 7), limit == 16 ? 0 : 1);
            check.same("9 the limit stays " + limit, house.countDirty(), limit);
            check.same("9 the first was flushed, " + limit, house.onPlace(0, 0), 7);
            check.same("9 sixteen pages and no wait, or one, " + limit, house.countWaits(), limit == 16 ? 0 : 1);
        }
        Writeback house = houseOf(16, 0);
        house.setLimit(16);
        writes(house, 0, 0, 16);
        house.setLimit(1);
        check.same("9 fifteen waits by one write", house.write(0, 3, 8), 15);
        check.same("9 the youngest one stays dirty", house.isDirty(0, 15), true);
        check.same("9 what is written now was flushed as it is now", house.onPlace(0, 3), 8);
        check.same("9 fifteen waits counted", house.countWaits(), 15);
    }

    private static void limitHoldsFromTheNextWriteOn(Check check) {
        Writeback house = house(0, 1);
        writes(house, 0, 0, 4);
        house.setLimit(2);
        house.read(0, 0);
        house.read(1, 0);
        house.begin();
        house.commit();
        house.begin();
        house.abort();
        check.throwing("9 what is refused does not wait", ARGUMENT, () -> house.write(0, 0, -1));
        check.same("5 by nothing but a write", house.countDirty(), 4);
        check.same("5 the next write, of a dirty page", house.write(0, 3, 9), 2);
        check.same("5 as many as the limit", house.countDirty(), 2);
        house.setLimit(3);
        check.same("5 a higher one", house.write(1, 0, 9), 0);
        check.same("5 just above it", house.write(1, 1, 9), 1);
    }

    private static void limitIsOfPlainPages(Check check) {
        Writeback house = houseOf(16, 0);
        house.setLimit(1);
        house.write(0, 9, 1);
        house.begin();
        check.same("9 six of the transaction do not wait", writes(house, 0, 0, 6), 0);
        check.same("9 one plain and six", house.countDirty(), 7);
        check.same("9 none was flushed", house.onPlace(0, 9), 0);
        house.commit();
        check.same("16 no wait by committing", house.countWaits() * 10 + house.countDirty(), 7);
        check.same("9 all plain then", house.write(0, 10, 2), 7);
        check.same("9 the last one stays", house.isDirty(0, 10), true);
        Writeback back = houseOf(16, 0);
        back.setLimit(1);
        back.write(0, 0, 1);
        back.begin();
        back.write(0, 0, 2);
        check.same("9 a plain one that is written in it is of it", back.write(0, 1, 3), 0);
        back.write(0, 2, 3);
        back.abort();
        check.same("17 a plain one again", back.countDirty(), 1);
        check.same("9 at the limit", back.write(0, 0, 4), 0);
        check.same("9 above it", back.write(0, 1, 4), 1);
    }

    private static void dirtyLongest(Check check) {
        Writeback house = houseOf(8, 0);
        house.setLimit(2);
        house.write(0, 5, 1);
        house.write(0, 3, 1);
        house.sync(0);
        house.write(0, 3, 2);
        house.write(0, 5, 2);
        house.write(0, 3, 3);
        house.write(0, 0, 2);
        check.same("9 dirty anew since it was flushed", house.onPlace(0, 3) * 10 + house.onPlace(0, 5), 31);
        Writeback own = houseOf(8, 0);
        own.write(0, 1, 1);
        own.write(0, 2, 1);
        own.setLimit(1);
        own.write(0, 1, 5);
        check.same("9 the page that is written now, if it is dirty longest", own.onPlace(0, 1), 5);
        check.same("9 it is clean then", own.isDirty(0, 1), false);
        check.same("9 the younger one is not", own.isDirty(0, 2), true);
    }

    private static void damageAndFrames(Check check) {
        Writeback house = houseOf(1, 0);
        house.damage(0, 0, 9999);
        check.refused("8 damaged", STATE, house, () -> house.read(0, 0));
        check.same("8 other blocks are not", house.read(0, 1), 0);
        check.refused("8 damaged, a page could go", STATE, house, () -> house.read(0, 0));
        check.same("8 it did not go", house.frameOf(0, 1), 0);
        check.same("9 a write needs no reading", house.write(0, 0, 9999), 0);
        check.same("8 it is in a frame", house.read(0, 0), 9999);
        house.read(0, 1);
        check.same("26 written anew with the value that it had", house.scrub(0), 0);
        check.same("8 it is right", house.read(0, 0), 9999);
        house.damage(0, 0, 0);
        check.same("8 in a frame damage does not matter", house.read(0, 0), 9999);
        house.read(0, 1);
        check.refused("8 out of it it does", STATE, house, () -> house.read(0, 0));
        house.damage(0, 0, 9999);
        check.same("8 with what was written last it is right again", house.read(0, 0), 9999);
    }
}
