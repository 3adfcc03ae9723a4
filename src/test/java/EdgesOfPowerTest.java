/** Boundary cases of promises 22 to 29: power that fails and comes back, damage, images. */
public final class EdgesOfPowerTest extends HouseTests {
    private EdgesOfPowerTest() {
    }

    public static void main(String[] args) {
        Check check = new Check("EdgesOfPowerTest");
        firstWrite(check);
        lastThatCanBeTold(check);
        notToldAnyMore(check);
        writesThatCount(check);
        whatDoesNotCount(check);
        failsInEachCall(check);
        failedOnce(check);
        staysToldOtherwise(check);
        lostPages(check);
        whatStays(check);
        handStays(check);
        lookingWithoutPower(check);
        comingBackWithNothing(check);
        comingBackWithTen(check);
        comingBackAtTheEnds(check);
        comingBackNeverFails(check);
        damageAtTheEnds(check);
        damageOfOneDevice(check);
        damageAndSums(check);
        wholeDevices(check);
        fourImages(check);
        imageAtTheEnds(check);
        imageOfOneDevice(check);
        imageAndTransactions(check);
        imageWithoutPower(check);
        check.end();
    }

    private static Writeback wide(int... devices) {
        Writeback house = houseOf(16, devices);
        house.setLimit(16);
        return house;
    }

    private static void write(Writeback house, int file, int... blocks) {
        for (int block : blocks) {
            house.write(file, block, 100 + block);
        }
    }

    private static int commit(Writeback house, int file, int... blocks) {
        house.begin();
        write(house, file, blocks);
        return house.commit();
    }

    private static void firstWrite(Check check) {
        Writeback house = wide(0);
        write(house, 0, 1, 2);
        check.same("22 told 1", house.failAt(1), 0);
        check.same("25 it has not failed by that", house.hasPower(), true);
        check.same("22 ahead of the first write", house.checkpoint(), -1);
        check.same("25 it has", house.hasPower(), false);
        check.same("22 nothing was written", house.onPlace(0, 1) + house.onPlace(0, 2), 0);
        check.same("22 at no cost", house.getBill(0) + house.getArm(), 0);
        Writeback two = wide(0);
        write(two, 0, 1, 2);
        two.failAt(2);
        check.same("22 ahead of the second write", two.checkpoint(), -1);
        check.same("22 the first was written", two.onPlace(0, 1) * 1000 + two.onPlace(0, 2), 101000);
        check.same("22 at its cost", two.getBill(0) * 10 + two.getArm(), 21);
        Writeback three = wide(0);
        write(three, 0, 1, 2);
        three.failAt(3);
        check.same("22 the third does not come", three.checkpoint(), 2);
        check.same("22 one is left", three.failAt(0), 1);
    }

    private static void lastThatCanBeTold(Check check) {
        Writeback house = wide(0);
        house.failAt(99);
        for (int i = 1; i <= 98; i++) {
            house.begin();
            check.same("22 write " + i + " of 99", house.commit(), 0);
        }
        check.same("25 98 were written", house.hasPower(), true);
        house.begin();
        check.same("22 ahead of the 99th it fails", house.commit(), -1);
        check.same("25 as it was told", house.hasPower(), false);
        check.same("22 98 were paid", house.getBill(0), 98);
        Writeback less = wide(0);
        less.failAt(99);
        for (int i = 1; i <= 98; i++) {
            less.begin();
            less.commit();
        }
        check.same("22 one of 99 is left", less.failAt(99), 1);
    }

    private static void notToldAnyMore(Check check) {
        Writeback house = wide(0);
        check.same("22 nothing told", house.failAt(0), 0);
        check.same("22 told one", house.failAt(1), 0);
        check.same("22 told none any more", house.failAt(0), 1);
        check.same("22 it does not fail", commit(house, 0, 1), 1);
        check.same("22 nothing is left of nothing", house.failAt(5), 0);
        house.checkpoint();
        check.same("22 told anew, four are left of five", house.failAt(5), 4);
        check.same("22 told anew from there on", house.failAt(0), 5);
    }

    private static void writesThatCount(Check check) {
        Writeback house = houseOf(4, 0, 1);
        house.failAt(99);
        commit(house, 0, 1);
        check.same("22 the log", house.failAt(99), 98);
        house.sync(0);
        check.same("22 a sync", house.failAt(99), 98);
        write(house, 1, 1);
        house.checkpoint();
        check.same("22 a checkpoint, on flash", house.failAt(99), 98);
        house.setLimit(1);
        write(house, 0, 1, 2);
        check.same("22 a wait", house.failAt(99), 98);
        house.setFrames(1);
        check.same("22 fewer frames", house.failAt(99), 98);
        write(house, 0, 3);
        house.read(0, 4);
        check.same("22 an eviction to read", house.failAt(99), 98);
        write(house, 0, 5, 6);
        check.same("22 an eviction to write", house.failAt(99), 98);
        house.setFrames(16);
        house.setLimit(16);
        for (int turn = 0; turn < 2; turn++) {
            commit(house, turn, 0, 2, 4, 8, 10);
        }
        house.failAt(99);
        check.same("16 a checkpoint ahead of it", commit(house, 0, 12), 1);
        check.same("22 eleven flushes, one of a plain page, and the log", house.failAt(99), 99 - 12);
    }

    private static void whatDoesNotCount(Check check) {
        Writeback house = houseOf(4, 0, 1);
        house.setWindow(2);
        house.failAt(1);
        reads(house, 0, 0, 1, 4, 8, 12);
        house.write(0, 12, 1);
        house.write(0, 12, 2);
        house.pin(0, 12);
        house.unpin(0, 12);
        house.begin();
        house.write(0, 12, 3);
        house.abort();
        house.setFrames(5);
        house.setPolicy('f');
        house.addFile(0);
        house.damage(0, 12, 9);
        house.scrub(0);
        house.keepImage(0);
        house.layBack(0, 0);
        check.same("19 nothing to flush", house.checkpoint() + house.sync(0), 0);
        house.setFrames(1);
        check.same("22 none of these is a write of a place", house.failAt(1), 1);
        check.same("25 there is power", house.hasPower(), true);
    }

    /** Two frames with a dirty page each, the power told to fail ahead of the next write. */
    private static Writeback about() {
        Writeback house = houseOf(2, 0, 1);
        house.setLimit(2);
        write(house, 0, 1);
        write(house, 1, 1);
        house.failAt(1);
        return house;
    }

    private static void failed(Check check, String what, Writeback house, Object answer) {
        check.same(what, answer, -1);
        check.same(what + ": power", house.hasPower(), false);
        check.same(what + ": pages", house.countPages() + house.countDirty(), 0);
        check.same(what + ": the transaction", house.countWritten(), 0);
        check.same(what + ": nothing was written", house.onPlace(0, 1) + house.onPlace(1, 1), 0);
        check.same(what + ": comes back", house.powerOn(), 0);
        check.refused(what + ": no transaction", UNSUPPORTED, house, house::commit);
    }

    private static void failsInEachCall(Check check) {
        Writeback read = about();
        failed(check, "8 the power fails", read, read.read(0, 2));
        check.same("8 it counts", read.countMisses(), 3);
        Writeback write = about();
        failed(check, "9 the power fails to evict", write, write.write(0, 2, 5));
        check.same("9 it counts", write.countMisses(), 3);
        Writeback wait = about();
        wait.setLimit(1);
        failed(check, "9 the power fails as it waits", wait, wait.write(0, 1, 5));
        check.same("9 it counts as a hit", wait.countHits(), 1);
        check.same("9 no wait is counted", wait.countWaits(), 0);
        Writeback frames = about();
        failed(check, "3 the power fails", frames, frames.setFrames(1));
        check.same("3 the frames of before", frames.setFrames(2), 2);
        Writeback commit = about();
        commit.begin();
        failed(check, "16 the power fails", commit, commit.commit());
        Writeback checkpoint = about();
        failed(check, "19 the power fails", checkpoint, checkpoint.checkpoint());
        Writeback sync = about();
        failed(check, "20 the power fails", sync, sync.sync(0));
        Writeback flash = about();
        failed(check, "20 the power fails on flash", flash, flash.sync(1));
        Writeback going = about();
        going.begin();
        going.write(0, 1, 6);
        failed(check, "8 the power fails in a transaction", going, going.read(0, 2));
    }

    private static void failedOnce(Check check) {
        Writeback house = about();
        house.checkpoint();
        house.powerOn();
        check.same("22 behind failing as told, nothing is told", house.failAt(0), 0);
        Writeback other = about();
        other.checkpoint();
        other.powerOn();
        for (int i = 0; i < 100; i++) {
            other.begin();
            check.same("22 it fails but once, " + i, other.commit(), 0);
        }
    }

    private static void staysToldOtherwise(Check check) {
        for (int n : new int[] {1, 2, 99}) {
            Writeback house = wide(0);
            house.failAt(n);
            house.fail();
            house.powerOn();
            check.same("22 it stays told, " + n, house.failAt(n), n);
            house.fail();
            house.powerOn();
            house.fail();
            house.powerOn();
            check.same("22 however often, " + n, house.failAt(0), n);
        }
        Writeback house = wide(0);
        house.failAt(2);
        commit(house, 0, 1);
        house.fail();
        house.powerOn();
        house.begin();
        check.same("22 ahead of the second one, as told", house.commit(), -1);
    }

    private static void lostPages(Check check) {
        Writeback none = wide(0);
        check.same("23 no pages", none.fail(), 0);
        Writeback clean = wide(0);
        clean.read(0, 0);
        check.same("23 no dirty pages", clean.fail(), 0);
        check.same("23 clean ones are lost, too", clean.countPages(), 0);
        Writeback full = wide(0);
        for (int block = 0; block < 16; block++) {
            full.write(0, block, 1);
            full.pin(0, block);
        }
        full.begin();
        write(full, 0, 0, 15);
        check.same("23 sixteen, with those of the transaction", full.fail(), 16);
        full.powerOn();
        for (int block = 0; block < 16; block++) {
            check.same("23 the frame " + block + " is empty", full.frameOf(0, block), -1);
            full.read(0, block);
            check.same("23 nothing of it is on its place, " + block, full.read(0, block), 0);
            int each = block;
            check.throwing("23 no pin is left, " + block, NO_ELEMENT, () -> full.unpin(0, each));
        }
        check.same("23 the transaction is lost", full.begin(), 2);
    }

    private static void whatStays(Check check) {
        Writeback house = houseOf(3, 0, 1);
        house.setPolicy('f');
        house.setLimit(3);
        house.setWindow(2);
        house.setTenant(1);
        reads(house, 0, 5, 6);
        house.read(0, 7);
        commit(house, 1, 4);
        house.sync(1);
        commit(house, 1, 5);
        house.keepImage(1);
        house.damage(0, 2, 4);
        int misses = house.countMisses();
        long bill = house.getBill(1);
        int arm = house.getArm();
        String trace = house.missesBy('l', 1) + " " + house.missesBy('b', 2);
        house.fail();
        check.same("23 hits", house.countHits(), 1);
        check.same("23 misses", house.countMisses(), misses);
        check.same("23 bills", house.getBill(1), bill);
        check.same("23 the arm", house.getArm(), arm);
        check.same("23 the trace", house.missesBy('l', 1) + " " + house.missesBy('b', 2), trace);
        check.same("23 the log", house.countLog(), 1);
        check.same("23 wear", house.getWear(4), 1);
        check.same("23 damage", house.scrub(0), 1);
        check.same("23 ahead and useful", house.countAhead() * 10 + house.countUseful(), 21);
        check.same("23 the image", house.keepImage(0), 1);
        check.same("23 the policy", house.setPolicy('l'), 'f');
        check.same("23 the limit", house.setLimit(4), 3);
        check.same("23 the window", house.setWindow(2), 2);
        check.same("23 the tenant", house.setTenant(1), 1);
        check.same("23 the files", house.addFile(0), 2);
        house.powerOn();
        check.same("23 the number of frames", house.setFrames(3), 3);
        check.same("23 the transactions that were begun", house.begin(), 3);
        house.read(0, 8);
        check.same("23 the block that was read last", house.countAhead(), 4);
    }

    private static void handStays(Check check) {
        Writeback house = houseOf(4, 0, 0);
        house.setPolicy('c');
        reads(house, 0, 0, 2, 4, 6, 8, 10, 12);
        house.fail();
        house.powerOn();
        reads(house, 0, 0, 2, 4, 6);
        house.read(1, 0);
        check.same("23 the hand is at the last frame as before", house.frameOf(1, 0), 3);
    }

    private static void lookingWithoutPower(Check check) {
        Writeback house = wide(0, 1);
        write(house, 0, 3);
        house.sync(0);
        write(house, 1, 3);
        house.fail();
        check.same("12 no frame", house.frameOf(0, 3), -1);
        check.same("13 not dirty", house.isDirty(1, 3), false);
        check.same("14 on its place", house.onPlace(0, 3), 103);
        check.same("18 no transaction", house.countWritten(), 0);
        check.same("25 no power", house.hasPower(), false);
        check.same("26 damage", house.damage(0, 3, 5), 103);
        check.same("27 scrub", house.scrub(0), 1);
        check.same("28 keepImage", house.keepImage(0), 0);
        check.same("30 no pages", house.countPages() + house.countDirty(), 0);
        check.same("38 wear", house.getWear(3), 0);
        check.same("40 the trace", house.missesBy('l', 16), 2);
        check.same("42 the share", house.getHitShare(), 0.0f);
        check.same("46 sound", house.isSound(), true);
    }

    private static void comingBackWithNothing(Check check) {
        Writeback house = wide(0);
        write(house, 0, 1);
        house.begin();
        write(house, 0, 2);
        house.fail();
        check.same("24 an empty log", house.powerOn(), 0);
        check.same("24 nothing is written", house.onPlace(0, 1) + house.onPlace(0, 2), 0);
        check.same("24 at no cost", house.getBill(0), 0);
        check.refused("24 there is power again", UNSUPPORTED, house, house::powerOn);
        check.same("24 no pages", house.countPages(), 0);
    }

    private static void comingBackWithTen(Check check) {
        Writeback house = wide(1, 0, 0);
        commit(house, 0, 0, 3, 6, 9, 12);
        commit(house, 1, 0, 3, 6);
        commit(house, 2, 5, 8);
        house.read(1, 10);
        house.setTenant(2);
        house.fail();
        check.same("21 ten without power", house.countLog(), 10);
        check.same("24 ten", house.powerOn(), 10);
        check.same("24 by rising places of the platter, then on flash", house.getBill(2), 11 + 4 + 4 + 16 + 4 + 5);
        check.same("32 the arm is at the last of the platter", house.getArm(), 24);
        check.same("24 the log is empty", house.countLog(), 0);
        for (int block = 0; block < 16; block += 3) {
            check.same("38 wear by coming back, " + block, house.getWear(block), block < 15 ? 1 : 0);
        }
        check.same("24 values", house.onPlace(0, 12) + house.onPlace(1, 6) + house.onPlace(2, 8), 112 + 106 + 108);
        check.same("24 no pages", house.countPages(), 0);
        house.fail();
        check.same("24 not again", house.powerOn(), 0);
        check.same("24 nothing more", house.getBill(2), 44);
    }

    private static void comingBackAtTheEnds(Check check) {
        Writeback house = wide(0, 0, 0, 0, 1, 1, 1, 1);
        house.begin();
        house.write(7, 15, 1);
        house.write(4, 0, 9999);
        house.write(3, 15, 3);
        house.write(0, 0, 4);
        house.commit();
        house.damage(3, 15, 7);
        house.damage(7, 15, 7);
        house.fail();
        check.same("24 four", house.powerOn(), 4);
        check.same("24 the first place of the platter", house.onPlace(0, 0), 4);
        check.same("24 its last one", house.onPlace(3, 15), 3);
        check.same("24 the first place of flash", house.onPlace(4, 0), 9999);
        check.same("24 its last one, written once", house.onPlace(7, 15) * 10 + house.getWear(63), 11);
        check.same("24 damaged ones are right by that", house.scrub(0) + house.scrub(1), 0);
        check.same("24 costs", house.getBill(0), 1 + 1 + 64 + 1 + 1);
    }

    private static void comingBackNeverFails(Check check) {
        for (int n : new int[] {1, 2, 3, 99}) {
            Writeback house = wide(0, 1);
            commit(house, 0, 1, 2);
            commit(house, 1, 1);
            house.failAt(n);
            house.fail();
            check.same("24 three, told " + n, house.powerOn(), 3);
            check.same("25 there is power, told " + n, house.hasPower(), true);
            check.same("24 all are written, told " + n, house.onPlace(0, 1) + house.onPlace(0, 2) + house.onPlace(1, 1),
                    101 + 102 + 101);
            check.same("24 it stays told " + n, house.failAt(0), n);
        }
    }

    private static void damageAtTheEnds(Check check) {
        Writeback house = wide(0, 0, 0, 0, 1, 1, 1, 1);
        check.same("26 the first place of the platter", house.damage(0, 0, 9999), 0);
        check.same("26 its last one", house.damage(3, 15, 1), 0);
        check.same("27 two", house.scrub(0), 2);
        check.same("27 none on flash", house.scrub(1), 0);
        check.same("26 the first place of flash", house.damage(4, 0, 1), 0);
        check.same("26 its last one", house.damage(7, 15, 1), 0);
        check.same("27 two on flash", house.scrub(1), 2);
        check.throwing("8 the last place of the platter", STATE, () -> house.read(3, 15));
        check.throwing("8 the first place of flash", STATE, () -> house.read(4, 0));
        check.throwing("8 the last place of flash", STATE, () -> house.read(7, 15));
        check.same("8 those beside are not", house.read(3, 14) + house.read(4, 1) + house.read(0, 1), 0);
        check.refused("26 it has that value", UNSUPPORTED, house, () -> house.damage(0, 0, 9999));
        check.refused("26 the least value, that it has", UNSUPPORTED, house, () -> house.damage(0, 1, 0));
        check.same("14 values, damaged or not", house.onPlace(0, 0) + house.onPlace(7, 15), 10000);
    }

    private static void damageOfOneDevice(Check check) {
        for (int file = 0; file < 8; file++) {
            for (int block = 0; block < 16; block += 15) {
                Writeback house = wide(0, 0, 0, 0, 1, 1, 1, 1);
                house.damage(file, block, 1);
                for (int other = 0; other < 8; other++) {
                    int each = other;
                    int its = block;
                    String what = "8 damaged is " + file + " " + block + ", read " + other;
                    if (other == file) {
                        check.throwing(what, STATE, () -> house.read(each, its));
                    } else {
                        check.same(what, house.read(other, block), 0);
                    }
                }
            }
        }
    }

    private static void damageAndSums(Check check) {
        Writeback house = wide(0);
        write(house, 0, 3);
        house.sync(0);
        check.same("27 written, it is right", house.scrub(0), 0);
        house.damage(0, 3, 0);
        check.same("27 what was there ahead of that is not", house.scrub(0), 1);
        house.damage(0, 3, 103);
        check.same("27 what was written last is", house.scrub(0), 0);
        house.damage(0, 3, 5);
        house.write(0, 3, 5);
        check.same("27 in a frame it does not count", house.scrub(0), 1);
        house.sync(0);
        check.same("27 written anew with the damaged value, both are right", house.scrub(0), 0);
        house.damage(0, 3, 103);
        check.same("27 what was written before that is not any more", house.scrub(0), 1);
        house.write(0, 3, 7);
        house.damage(0, 3, 7);
        check.same("27 the value of the page alone does not help", house.scrub(0), 1);
    }

    private static void wholeDevices(Check check) {
        Writeback house = wide(0, 0, 0, 0, 1);
        check.same("27 none", house.scrub(0) + house.scrub(1), 0);
        int image = house.keepImage(0);
        for (int file = 0; file < 4; file++) {
            for (int block = 0; block < 16; block++) {
                house.damage(file, block, 1);
            }
        }
        check.same("27 all places of the platter", house.scrub(0), 64);
        check.same("27 none of flash", house.scrub(1), 0);
        int damaged = house.keepImage(0);
        check.same("29 all blocks have another value", house.layBack(image, 0), 64);
        check.same("27 none is damaged", house.scrub(0), 0);
        check.same("29 and again", house.layBack(damaged, 0), 64);
        check.same("27 all as they were kept", house.scrub(0), 64);
        check.same("29 none has another value", house.layBack(damaged, 0), 0);
    }

    private static void fourImages(Check check) {
        Writeback house = wide(0, 1);
        for (int number = 0; number < 4; number++) {
            house.write(number % 2, 5, 10 + number);
            house.checkpoint();
            check.same("28 image " + number, house.keepImage(number % 2), number);
        }
        check.refused("28 a 5th of the platter", STATE, house, () -> house.keepImage(0));
        check.refused("28 a 5th of flash", STATE, house, () -> house.keepImage(1));
        check.refused("29 there is no image 4", BOUNDS, house, () -> house.layBack(4, 0));
        for (int number = 3; number >= 0; number--) {
            int each = number;
            check.refused("29 not on the other one, " + number, UNSUPPORTED, house,
                    () -> house.layBack(each, 1 - each % 2));
            check.same("29 lay back " + number, house.layBack(number, number % 2), number < 2 ? 1 : 0);
            check.same("29 its value, " + number, house.onPlace(number % 2, 5), 10 + number);
        }
        check.refused("28 none is free by that", STATE, house, () -> house.keepImage(0));
        check.same("29 the last one again", house.layBack(3, 1), 1);
    }

    private static void imageAtTheEnds(Check check) {
        Writeback house = wide(0, 0, 0, 0, 1, 1, 1, 1);
        int platter = house.keepImage(0);
        int flash = house.keepImage(1);
        house.write(0, 0, 1);
        house.write(3, 15, 2);
        house.write(4, 0, 3);
        house.write(7, 15, 4);
        house.checkpoint();
        check.same("29 the ends of the platter", house.layBack(platter, 0), 2);
        check.same("29 are back", house.onPlace(0, 0) + house.onPlace(3, 15), 0);
        check.same("29 those of flash stay", house.onPlace(4, 0) * 10 + house.onPlace(7, 15), 34);
        check.same("29 two pages are left", house.countPages(), 2);
        check.same("29 the ends of flash", house.layBack(flash, 1), 2);
        check.same("29 are back, too", house.onPlace(4, 0) + house.onPlace(7, 15), 0);
        check.same("29 no page is left", house.countPages(), 0);
        commit(house, 0, 0);
        commit(house, 3, 15);
        commit(house, 4, 0);
        commit(house, 7, 15);
        check.same("29 nothing was on the places", house.layBack(platter, 0), 0);
        check.same("29 two are left in the log", house.countLog(), 2);
        check.same("29 two dirty pages, too", house.countDirty(), 2);
        check.same("29 those of flash", house.isDirty(4, 0) && house.isDirty(7, 15), true);
        house.layBack(flash, 1);
        check.same("29 none is left", house.countLog() + house.countDirty(), 0);
        house.fail();
        check.same("29 nothing comes back", house.powerOn(), 0);
    }

    private static void imageOfOneDevice(Check check) {
        Writeback house = wide(0, 1);
        house.keepImage(0);
        for (int block = 0; block < 16; block++) {
            house.write(block % 2, block, 1);
            house.pin(block % 2, block);
        }
        check.same("29 nothing was written there", house.layBack(0, 0), 0);
        check.same("29 eight pages go, pinned and dirty", house.countPages() * 100 + house.countDirty(), 808);
        check.same("29 the first frame is free", house.frameOf(0, 0), -1);
        check.same("29 the last frame is not", house.frameOf(1, 15), 15);
        check.same("29 a pin of the other device stays", house.unpin(1, 15), 0);
        house.read(0, 1);
        check.same("29 the lowest free frame", house.frameOf(0, 1), 0);
        Writeback last = wide(0);
        last.keepImage(0);
        for (int block = 0; block < 16; block++) {
            last.read(0, block);
        }
        last.layBack(0, 0);
        check.same("29 all sixteen frames", last.countPages(), 0);
        check.same("29 the last one, too", last.frameOf(0, 15), -1);
    }

    private static void imageAndTransactions(Check check) {
        Writeback house = wide(0, 1);
        house.keepImage(0);
        house.begin();
        check.refused("29 a transaction without a block", UNSUPPORTED, house, () -> house.layBack(0, 0));
        house.write(1, 0, 1);
        check.refused("29 one with a block of the other device", UNSUPPORTED, house, () -> house.layBack(0, 0));
        house.commit();
        check.same("29 behind its commit", house.layBack(0, 0), 0);
        house.begin();
        house.write(0, 0, 1);
        house.abort();
        check.same("29 behind an abort", house.layBack(0, 0), 0);
        house.begin();
        house.fail();
        check.same("29 behind a power failure", house.layBack(0, 0), 0);
    }

    private static void imageWithoutPower(Check check) {
        Writeback house = wide(0, 1);
        commit(house, 0, 1, 2);
        house.checkpoint();
        house.keepImage(0);
        commit(house, 0, 1, 3);
        commit(house, 1, 1);
        house.fail();
        check.same("29 nothing was flushed since", house.layBack(0, 0), 0);
        check.same("29 out of the log", house.countLog(), 1);
        check.same("24 the other device's comes back", house.powerOn(), 1);
        check.same("29 as it was kept", house.onPlace(0, 1) * 1000 + house.onPlace(0, 3), 101000);
        check.same("29 no cost but of the logs, the checkpoint and the coming back", house.getBill(0), 3 + 4 + 1);
        check.same("29 the arm is where the checkpoint left it", house.getArm(), 2);
    }
}
