/** Promises 30 to 46: counts, bills, the trace and figures. */
public final class CountsTest extends HouseTests {
    private CountsTest() {
    }

    public static void main(String[] args) {
        Check check = new Check("CountsTest");
        countsOfPages(check);
        arm(check);
        hitsAndMisses(check);
        waits(check);
        aheadAndUseful(check);
        wear(check);
        bill(check);
        missesByRefusals(check);
        missesByPolicies(check);
        missesByTheLastHundred(check);
        framesFor(check);
        share(check);
        shareBits(check);
        meanCost(check);
        checksum(check);
        sound(check);
        check.end();
    }

    private static void countsOfPages(Check check) {
        Writeback house = house(0);
        check.same("30 none", house.countPages(), 0);
        check.same("31 none", house.countDirty(), 0);
        house.read(0, 0);
        house.write(0, 1, 1);
        house.begin();
        house.write(0, 2, 1);
        check.same("30 three", house.countPages(), 3);
        check.same("31 two, with that of the transaction", house.countDirty(), 2);
        house.abort();
        check.same("30 two", house.countPages(), 2);
        check.same("31 one", house.countDirty(), 1);
        house.fail();
        check.same("30 lost", house.countPages(), 0);
    }

    private static void arm(Check check) {
        Writeback house = house(1, 0, 0);
        check.same("32 at first", house.getArm(), 0);
        house.read(0, 9);
        check.same("32 not by flash", house.getArm(), 0);
        house.read(2, 15);
        check.same("32 by reading", house.getArm(), 31);
        house.write(1, 7, 1);
        check.same("32 not by a write to a frame", house.getArm(), 31);
        house.checkpoint();
        check.same("32 by flushing", house.getArm(), 7);
        house.fail();
        check.same("32 without power", house.getArm(), 7);
    }

    private static void hitsAndMisses(Check check) {
        Writeback house = house(0);
        check.same("33 none", house.countHits(), 0);
        check.same("34 none", house.countMisses(), 0);
        house.write(0, 0, 1);
        house.write(0, 0, 2);
        house.read(0, 0);
        house.read(0, 1);
        check.same("33 two", house.countHits(), 2);
        check.same("34 two", house.countMisses(), 2);
        house.pin(0, 0);
        house.frameOf(0, 0);
        check.throwing("34 a refused one", BOUNDS, () -> house.read(0, 16));
        house.setWindow(2);
        house.read(0, 2);
        check.same("33 no access, no hit", house.countHits(), 2);
        check.same("34 what comes ahead is no access", house.countMisses(), 3);
        house.setLimit(1);
        house.failAt(1);
        house.write(0, 2, 2);
        check.same("33 it counts also if the power fails", house.countHits(), 3);
    }

    private static void waits(Check check) {
        Writeback house = house(0);
        house.setLimit(1);
        check.same("35 none", house.countWaits(), 0);
        house.write(0, 0, 1);
        house.write(0, 1, 1);
        house.write(0, 2, 1);
        check.same("35 two", house.countWaits(), 2);
        house.setFrames(1);
        house.checkpoint();
        check.same("35 other flushes are no waits", house.countWaits(), 2);
    }

    private static void aheadAndUseful(Check check) {
        Writeback house = house(0);
        house.setWindow(4);
        house.read(0, 0);
        house.read(0, 1);
        check.same("36 four", house.countAhead(), 4);
        check.same("37 none", house.countUseful(), 0);
        house.read(0, 2);
        house.read(0, 2);
        check.same("37 each once", house.countUseful(), 1);
        house.write(0, 3, 1);
        check.same("37 by a write, too", house.countUseful(), 2);
        house.fail();
        house.powerOn();
        house.write(0, 4, 1);
        check.same("37 not if it left its frame", house.countUseful(), 2);
        Writeback other = house(0);
        other.setWindow(1);
        other.read(0, 0);
        other.read(0, 1);
        other.setFrames(2);
        other.read(0, 2);
        check.same("37 evicted ahead of it", other.countUseful(), 0);
        check.same("36 two", other.countAhead(), 2);
        other.read(0, 3);
        check.same("37 one of them", other.countUseful(), 1);
        Writeback third = house(0);
        third.setWindow(1);
        third.setFrames(1);
        third.setFrames(2);
        third.read(0, 0);
        third.read(0, 1);
        check.same("36 one in the frame 0", third.frameOf(0, 2), 0);
        third.pin(0, 1);
        third.read(0, 9);
        third.read(0, 9);
        check.same("37 not another page in its frame", third.countUseful(), 0);
        third.write(0, 8, 1);
        third.write(0, 8, 1);
        check.same("37 nor one that is written", third.countUseful(), 0);
    }

    private static void wear(Check check) {
        Writeback house = house(0, 1, 1);
        check.refused("38 place -1", ARGUMENT, house, () -> house.getWear(-1));
        check.refused("38 place 64", ARGUMENT, house, () -> house.getWear(64));
        for (int i = 0; i < 3; i++) {
            house.write(2, 15, i);
            house.write(0, 15, i);
            house.checkpoint();
        }
        check.same("38 three", house.getWear(31), 3);
        check.same("38 the platter's are not told", house.getWear(15), 0);
        check.same("38 the last place", house.getWear(63), 0);
        house.begin();
        house.write(2, 15, 9);
        house.commit();
        house.fail();
        house.powerOn();
        check.same("38 by coming back, too", house.getWear(31), 4);
        house.read(2, 15);
        check.same("38 not by reading", house.getWear(31), 4);
    }

    private static void bill(Check check) {
        Writeback house = house(0, 1);
        check.refused("39 tenant -1", ARGUMENT, house, () -> house.getBill(-1));
        check.refused("39 tenant 3", ARGUMENT, house, () -> house.getBill(3));
        check.same("39 nothing", house.getBill(2), 0);
        house.setTenant(1);
        house.write(0, 9, 1);
        house.setTenant(2);
        house.checkpoint();
        check.same("39 he pays who is told as it is done", house.getBill(2), 10);
        check.same("39 not he who wrote", house.getBill(1), 0);
        house.begin();
        house.commit();
        check.same("39 the log", house.getBill(2), 11);
        house.read(1, 9);
        check.same("39 flash", house.getBill(2), 12);
    }

    private static void missesByRefusals(Check check) {
        Writeback house = house(0);
        house.read(0, 0);
        check.refused("40 policy x", ARGUMENT, house, () -> house.missesBy('x', 1));
        check.refused("40 policy B", ARGUMENT, house, () -> house.missesBy('B', 1));
        check.refused("40 frames 0", ARGUMENT, house, () -> house.missesBy('b', 0));
        check.refused("40 frames 17", ARGUMENT, house, () -> house.missesBy('l', 17));
        check.same("40 one", house.missesBy('b', 16), 1);
    }

    /** The row that shows how ages by use and by coming differ: 1 2 3 4 1 2 5 1 2 3 4 5. */
    private static void missesByPolicies(Check check) {
        Writeback house = house(0);
        house.setFrames(1);
        for (int block : new int[] {1, 2, 3, 4, 1, 2, 5, 1, 2, 3, 4, 5}) {
            house.read(0, block);
        }
        check.same("40 f with 3", house.missesBy('f', 3), 9);
        check.same("40 f with 4", house.missesBy('f', 4), 10);
        check.same("40 l with 3", house.missesBy('l', 3), 10);
        check.same("40 l with 4", house.missesBy('l', 4), 8);
        check.same("40 b with 3", house.missesBy('b', 3), 7);
        check.same("40 b with 4", house.missesBy('b', 4), 6);
        check.same("40 c with 3", house.missesBy('c', 3), 9);
        check.same("40 c with 4", house.missesBy('c', 4), 10);
        check.same("40 with 5", house.missesBy('c', 5), 5);
        Writeback other = house(0);
        for (int block : new int[] {0, 1, 2, 3, 1, 4, 1}) {
            other.write(0, block, 1);
        }
        // With 3: 3 comes for 0, all have lost; 1 is used, so that by the hand 2 goes, but by coming 1 does.
        check.same("40 c: what was used stays", other.missesBy('c', 3), 5);
        check.same("40 f: what came first goes", other.missesBy('f', 3), 6);
        check.same("40 c: an access for each call, once", other.missesBy('c', 3), 5);
    }

    private static void missesByTheLastHundred(Check check) {
        Writeback house = house(0);
        for (int block = 0; block < 16; block++) {
            house.read(0, block);
        }
        for (int i = 0; i < 84; i++) {
            house.read(0, 15);
        }
        check.same("40 a hundred", house.missesBy('l', 1), 16);
        house.read(0, 15);
        check.same("40 the first is gone", house.missesBy('l', 1), 15);
        house.read(0, 0);
        check.same("40 the second is gone, one came", house.missesBy('b', 16), 15);
    }

    private static void framesFor(Check check) {
        Writeback house = house(0, 0);
        check.refused("41 misses -1", ARGUMENT, house, () -> house.framesFor(-1));
        check.refused("41 misses 101", ARGUMENT, house, () -> house.framesFor(101));
        check.same("41 of nothing", house.framesFor(0), 1);
        for (int block : new int[] {1, 2, 3, 4, 1, 2, 5, 1, 2, 3, 4, 5}) {
            house.read(0, block);
        }
        check.same("41 none at all", house.framesFor(0), 17);
        check.same("41 four", house.framesFor(4), 17);
        check.same("41 five", house.framesFor(5), 5);
        check.same("41 six", house.framesFor(6), 4);
        check.same("41 seven", house.framesFor(7), 3);
        check.same("41 a hundred", house.framesFor(100), 1);
        for (int i = 0; i < 16; i++) {
            house.write(1, i, 1);
            house.write(1, 0, 1);
        }
        check.same("41 more pages than frames", house.framesFor(20), 17);
    }

    private static void share(Check check) {
        Writeback house = house(0);
        check.refused("42 none", ARITHMETIC, house, house::getHitShare);
        house.read(0, 0);
        check.same("42 nothing hit", house.getHitShare(), 0.0f);
        house.read(0, 0);
        house.read(0, 0);
        check.same("42 two thirds", house.getHitShare(), 2.0f / 3.0f);
    }

    private static void shareBits(Check check) {
        Writeback house = house(0);
        check.refused("43 none", ARITHMETIC, house, house::getHitBits);
        house.read(0, 0);
        check.same("43 nothing hit", house.getHitBits(), 0);
        for (int i = 0; i < 250; i++) {
            house.read(0, 0);
            check.same("43 bits", house.getHitBits(), Float.floatToIntBits(house.getHitShare()));
        }
        Writeback other = house(0);
        other.setFrames(1);
        for (int i = 0; i < 240; i++) {
            other.read(0, i % 7 == 0 ? 1 : i % 3);
            check.same("43 other bits", other.getHitBits(), Float.floatToIntBits(other.getHitShare()));
        }
    }

    private static void meanCost(Check check) {
        Writeback house = house(0);
        check.refused("44 none", ARITHMETIC, house, house::getMeanCost);
        house.begin();
        house.commit();
        check.refused("44 costs without accesses", ARITHMETIC, house, house::getMeanCost);
        house.setTenant(2);
        house.read(0, 4);
        house.setTenant(1);
        house.read(0, 7);
        house.read(0, 7);
        check.same("44 all bills", house.getMeanCost(), (1.0 + 5.0 + 4.0) / 3.0);
    }

    private static void checksum(Check check) {
        Writeback house = house(1, 0);
        house.setFrames(3);
        house.setLimit(1);
        house.write(0, 2, 5);
        house.setTenant(1);
        house.write(1, 3, 6);
        house.write(1, 4, 7);
        house.read(1, 4);
        house.begin();
        house.write(1, 3, 8);
        house.commit();
        house.setTenant(2);
        house.read(1, 5);
        check.same("45 a sum over all", house.checksum(), dueSum(house));
        house.setFrames(16);
        check.same("45 of sixteen frames", house.checksum(), dueSum(house));
        house.fail();
        check.same("45 without power", house.checksum(), dueSum(house));
    }

    /** The sum as the document tells it, of what the other calls answer; file 1 is the platter's, file 0 flash's. */
    private static long dueSum(Writeback house) {
        long sum = 7;
        for (int device = 0; device < 2; device++) {
            for (int place = 0; place < 64; place++) {
                sum = 31 * sum + (place < 16 ? house.onPlace(1 - device, place) : 0);
            }
        }
        int frames = house.hasPower() ? house.setFrames(16) : 16;
        if (house.hasPower()) {
            house.setFrames(frames);
        }
        for (int frame = 0; frame < frames; frame++) {
            sum = 31 * sum + valueInFrame(house, frame);
        }
        long[] rest = {house.countHits(), house.countMisses(), house.countWaits(), house.getArm(), house.countLog(),
            house.getBill(0), house.getBill(1), house.getBill(2)};
        for (long number : rest) {
            sum = 31 * sum + number;
        }
        return sum;
    }

    private static int valueInFrame(Writeback house, int frame) {
        for (int block = 0; block < 16; block++) {
            if (house.frameOf(0, block) == frame) {
                return block == 2 ? 5 : 0;
            }
            if (house.frameOf(1, block) == frame) {
                return block == 3 ? 8 : block == 4 ? 7 : 0;
            }
        }
        return -1;
    }

    private static void sound(Check check) {
        Writeback house = house(0, 1);
        check.same("46 at first", house.isSound(), true);
        house.read(0, 0);
        house.damage(0, 0, 5);
        check.same("46 damaged ones aside", house.isSound(), true);
        house.begin();
        house.write(1, 0, 5);
        check.same("46 in a transaction", house.isSound(), true);
        house.commit();
        check.same("46 with a log", house.isSound(), true);
        house.fail();
        check.same("46 without power", house.isSound(), true);
        house.powerOn();
        check.same("46 with power again", house.isSound(), true);
    }
}
