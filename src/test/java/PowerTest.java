/** Promises 22 to 29: failAt, fail, powerOn, hasPower, damage, scrub, keepImage, layBack. */
public final class PowerTest extends HouseTests {
    private PowerTest() {
    }

    public static void main(String[] args) {
        Check check = new Check("PowerTest");
        failAt(check);
        fail(check);
        powerOn(check);
        hasPower(check);
        handStays(check);
        lastReadStays(check);
        damage(check);
        scrub(check);
        keepImage(check);
        layBack(check);
        layBackDamage(check);
        check.end();
    }

    private static void failAt(Check check) {
        Writeback house = house(0);
        check.refused("22 n -1", ARGUMENT, house, () -> house.failAt(-1));
        check.refused("22 n 100", ARGUMENT, house, () -> house.failAt(100));
        check.same("22 told nothing", house.failAt(99), 0);
        check.same("22 told 99", house.failAt(3), 99);
        house.read(0, 3);
        house.write(0, 1, 1);
        house.write(0, 2, 2);
        house.sync(0);
        check.same("22 two writes of three", house.failAt(3), 1);
        house.begin();
        house.commit();
        check.same("22 the log is written, too", house.failAt(2), 2);
        house.fail();
        check.refused("22 no power", UNSUPPORTED, house, () -> house.failAt(1));
        check.refused("22 a wrong number ahead of no power", ARGUMENT, house, () -> house.failAt(100));
        house.powerOn();
        check.same("22 it stays told if it fails otherwise", house.failAt(2), 2);
        house.write(0, 1, 3);
        house.write(0, 2, 3);
        check.same("22 it fails ahead of the second", house.checkpoint(), -1);
        check.same("22 the first is written", house.onPlace(0, 1), 3);
        check.same("22 the second not", house.onPlace(0, 2), 2);
        house.powerOn();
        check.same("22 nothing is told any more", house.failAt(1), 0);
        check.same("22 told 1", house.failAt(0), 1);
        house.begin();
        check.same("22 it does not fail any more", house.commit(), 0);
    }

    private static void fail(Check check) {
        Writeback house = house(0);
        house.read(0, 0);
        house.write(0, 1, 1);
        house.begin();
        house.write(0, 2, 1);
        check.same("23 two, with that of the transaction", house.fail(), 2);
        check.same("23 pages are lost", house.countPages(), 0);
        check.same("23 dirty ones, too", house.countDirty(), 0);
        check.same("23 the transaction, too", house.countWritten(), 0);
        check.refused("23 no power", UNSUPPORTED, house, house::fail);
        house.powerOn();
        check.same("23 nothing is lost", house.fail(), 0);
        house.powerOn();
        house.setFrames(5);
        house.fail();
        house.powerOn();
        check.same("23 the number of frames stays", house.setFrames(5), 5);
        check.same("23 the arm and the bill stay", house.getArm() + house.getBill(0), 1);
    }

    private static void powerOn(Check check) {
        Writeback house = house(1, 0, 0);
        check.refused("24 there is power", UNSUPPORTED, house, house::powerOn);
        house.read(1, 4);
        house.begin();
        house.write(2, 1, 30);
        house.write(0, 7, 10);
        house.write(1, 2, 20);
        house.commit();
        house.failAt(1);
        house.fail();
        house.setTenant(1);
        check.same("24 three", house.powerOn(), 3);
        check.same("24 the log is empty", house.countLog(), 0);
        check.same("24 rising places, costs of the tenant", house.getBill(1), 3 + 16 + 1);
        check.same("24 the arm", house.getArm(), 17);
        check.same("24 wear", house.getWear(7), 1);
        check.same("24 values", house.onPlace(0, 7) + house.onPlace(1, 2) + house.onPlace(2, 1), 60);
        check.same("24 what was told is left", house.failAt(0), 1);
        house.damage(1, 3, 5);
        house.begin();
        house.write(1, 3, 6);
        house.commit();
        house.fail();
        house.powerOn();
        check.same("24 writing anew makes a damaged one right", house.scrub(0), 0);
        house.fail();
        check.same("24 nothing to write", house.powerOn(), 0);
        house.begin();
        house.write(0, 1, 6);
        house.write(0, 2, 6);
        house.commit();
        house.failAt(3);
        house.fail();
        check.same("24 two by coming back", house.powerOn(), 2);
        check.same("24 they are not of the further writes", house.failAt(0), 3);
    }

    private static void hasPower(Check check) {
        Writeback house = house(0);
        check.same("25 at first", house.hasPower(), true);
        house.fail();
        check.same("25 failed", house.hasPower(), false);
        house.powerOn();
        check.same("25 back", house.hasPower(), true);
        house.failAt(1);
        check.same("25 told is not failed", house.hasPower(), true);
        house.begin();
        house.commit();
        check.same("25 failed as told", house.hasPower(), false);
    }

    private static void handStays(Check check) {
        Writeback house = house(0);
        house.setFrames(3);
        house.setPolicy('c');
        for (int block : new int[] {0, 4, 8, 12}) {
            house.read(0, block);
        }
        house.fail();
        house.powerOn();
        for (int block : new int[] {0, 4, 8, 12}) {
            house.read(0, block);
        }
        check.same("23 the hand stays behind the frame 0", house.frameOf(0, 12), 1);
    }

    private static void lastReadStays(Check check) {
        Writeback house = house(0);
        house.setWindow(1);
        house.read(0, 3);
        house.fail();
        house.powerOn();
        house.read(0, 4);
        check.same("23 the block that was read last stays", house.countAhead(), 1);
    }

    private static void damage(Check check) {
        Writeback house = house(0, 1);
        check.refused("26 file 2", BOUNDS, house, () -> house.damage(2, 0, 1));
        check.refused("26 file -1", BOUNDS, house, () -> house.damage(-1, 0, 1));
        check.refused("26 block 16", BOUNDS, house, () -> house.damage(0, 16, -1));
        check.refused("26 block -1", BOUNDS, house, () -> house.damage(0, -1, 1));
        check.refused("26 value -1", ARGUMENT, house, () -> house.damage(0, 0, -1));
        check.refused("26 value 10000", ARGUMENT, house, () -> house.damage(0, 0, 10000));
        check.refused("26 it has that value", UNSUPPORTED, house, () -> house.damage(0, 0, 0));
        check.same("26 the value of before", house.damage(0, 0, 9999), 0);
        check.same("26 the next one", house.damage(0, 0, 5), 9999);
        check.refused("26 it has the damaged value", UNSUPPORTED, house, () -> house.damage(0, 0, 5));
        check.throwing("26 it cannot be read", STATE, () -> house.read(0, 0));
        check.same("26 back to what was written", house.damage(0, 0, 0), 5);
        check.same("26 it is right then", house.read(0, 0), 0);
        check.same("26 the page does not matter", house.damage(0, 0, 6), 0);
        check.same("26 no wear, no cost", house.damage(1, 0, 6) + house.getWear(0) + house.getBill(0), 1);
        house.fail();
        check.same("26 without power", house.damage(0, 1, 6), 0);
    }

    private static void scrub(Check check) {
        Writeback house = house(0, 1);
        check.refused("27 device -1", BOUNDS, house, () -> house.scrub(-1));
        check.refused("27 device 2", BOUNDS, house, () -> house.scrub(2));
        check.same("27 none", house.scrub(0), 0);
        house.damage(0, 0, 1);
        house.damage(0, 15, 1);
        house.damage(1, 15, 1);
        check.same("27 two", house.scrub(0), 2);
        check.same("27 one", house.scrub(1), 1);
        house.write(0, 0, 1);
        check.same("27 not yet written to its place", house.scrub(0), 2);
        house.sync(0);
        check.same("27 written anew", house.scrub(0), 1);
        house.damage(0, 15, 0);
        check.same("27 the value that was written", house.scrub(0), 0);
        house.fail();
        check.same("27 without power", house.scrub(1), 1);
    }

    private static void keepImage(Check check) {
        Writeback house = house(0, 1);
        check.refused("28 device -1", BOUNDS, house, () -> house.keepImage(-1));
        check.refused("28 device 2", BOUNDS, house, () -> house.keepImage(2));
        check.same("28 the first", house.keepImage(1), 0);
        check.same("28 the second", house.keepImage(0), 1);
        house.fail();
        check.same("28 without power", house.keepImage(0), 2);
        house.powerOn();
        house.begin();
        check.same("28 in a transaction", house.keepImage(0), 3);
        check.refused("28 a fifth", STATE, house, () -> house.keepImage(1));
        check.refused("28 no device ahead of four", BOUNDS, house, () -> house.keepImage(2));
    }

    private static void layBack(Check check) {
        Writeback house = house(0, 1);
        check.refused("29 no image yet", BOUNDS, house, () -> house.layBack(0, 0));
        house.write(0, 1, 11);
        house.write(0, 2, 12);
        house.sync(0);
        house.keepImage(0);
        check.refused("29 image -1", BOUNDS, house, () -> house.layBack(-1, 0));
        check.refused("29 image 1", BOUNDS, house, () -> house.layBack(1, 0));
        check.refused("29 device 2", BOUNDS, house, () -> house.layBack(0, 2));
        check.refused("29 device -1", BOUNDS, house, () -> house.layBack(0, -1));
        check.refused("29 of another sort", UNSUPPORTED, house, () -> house.layBack(0, 1));
        house.begin();
        check.refused("29 a transaction goes on", UNSUPPORTED, house, () -> house.layBack(0, 0));
        check.refused("29 no image ahead of a transaction", BOUNDS, house, () -> house.layBack(1, 0));
        house.write(0, 1, 21);
        house.write(0, 4, 24);
        house.write(1, 1, 31);
        house.commit();
        house.sync(0);
        house.begin();
        house.write(0, 1, 41);
        house.commit();
        house.pin(0, 1);
        house.failAt(1);
        long bill = house.getBill(0);
        check.same("29 two have another value", house.layBack(0, 0), 2);
        check.same("29 values", house.onPlace(0, 1) + house.onPlace(0, 2) + house.onPlace(0, 4), 23);
        check.same("29 pages of the device go, dirty or pinned", house.countPages(), 1);
        check.same("29 the other device's stay", house.isDirty(1, 1), true);
        check.same("29 all of it leaves the log", house.countLog(), 1);
        check.same("29 no cost", house.getBill(0), bill);
        check.same("29 no write of a place", house.failAt(0), 1);
        check.same("29 laid back again", house.layBack(0, 0), 0);
        check.same("29 read anew", house.read(0, 1), 11);
        check.throwing("29 the pin is gone", NO_ELEMENT, () -> house.unpin(0, 1));
        house.fail();
        house.damage(0, 9, 9);
        check.same("29 without power", house.layBack(0, 0), 1);
        check.same("29 of the log only the other device comes back", house.powerOn(), 1);
        check.same("29 it does", house.onPlace(1, 1), 31);
    }

    private static void layBackDamage(Check check) {
        Writeback house = house(1);
        house.write(0, 3, 7);
        house.sync(0);
        house.damage(0, 3, 8);
        house.damage(0, 4, 9);
        int image = house.keepImage(1);
        house.damage(0, 3, 7);
        house.write(0, 4, 5);
        house.sync(0);
        check.same("29 none damaged", house.scrub(1), 0);
        check.same("29 two others", house.layBack(image, 1), 2);
        check.same("29 damaged as they were", house.scrub(1), 2);
        check.same("29 wear stays as it is", house.getWear(3) * 10 + house.getWear(4), 11);
        house.damage(0, 4, 0);
        check.same("29 the sum is the image's", house.scrub(1), 1);
        check.same("29 sound", house.isSound(), true);
    }
}
