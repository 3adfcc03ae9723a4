/** Promises 15 to 21: begin, commit, abort, countWritten, checkpoint, sync, countLog. */
public final class TransactionTest extends HouseTests {
    private TransactionTest() {
    }

    public static void main(String[] args) {
        Check check = new Check("TransactionTest");
        begin(check);
        commit(check);
        commitFails(check);
        commitFillsLog(check);
        commitBesidePlainWrites(check);
        commitKeepsTimes(check);
        abort(check);
        abortKeepsTimes(check);
        abortFreesFrames(check);
        countWritten(check);
        checkpoint(check);
        sync(check);
        countLog(check);
        check.end();
    }

    private static void begin(Check check) {
        Writeback house = houseOf(8, 0);
        check.same("15 the first", house.begin(), 1);
        check.refused("15 one goes on", UNSUPPORTED, house, house::begin);
        house.abort();
        check.same("15 the second", house.begin(), 2);
        house.commit();
        check.same("15 the third", house.begin(), 3);
        house.fail();
        check.refused("15 no power", UNSUPPORTED, house, house::begin);
        house.powerOn();
        check.same("15 lost with the power", house.begin(), 4);
    }

    private static void commit(Check check) {
        Writeback house = houseOf(8, 0, 1);
        check.refused("16 no transaction", UNSUPPORTED, house, house::commit);
        house.setTenant(2);
        house.begin();
        check.same("16 of nothing", house.commit(), 0);
        check.same("16 cost of nothing", house.getBill(2), 1);
        house.begin();
        house.write(0, 5, 1);
        house.write(1, 5, 2);
        house.write(0, 5, 3);
        check.same("16 two blocks", house.commit(), 2);
        check.same("16 one write of the log", house.getBill(2), 2);
        check.same("16 not on its place", house.onPlace(0, 5), 0);
        check.same("16 plain dirty", house.countDirty(), 2);
        check.same("16 no block written any more", house.countWritten(), 0);
        check.refused("16 it is over", UNSUPPORTED, house, house::commit);
        house.begin();
        house.write(0, 5, 4);
        check.same("16 each block once", house.commit(), 2);
        house.fail();
        check.refused("16 no power", UNSUPPORTED, house, house::commit);
        check.same("16 the log stays", house.powerOn(), 2);
        check.same("16 the last committed value", house.onPlace(0, 5), 4);
        check.same("16 of both", house.onPlace(1, 5), 2);
    }

    private static void commitFails(Check check) {
        Writeback house = houseOf(8, 0);
        house.begin();
        house.write(0, 1, 1);
        house.commit();
        house.begin();
        house.write(0, 1, 2);
        house.write(0, 2, 2);
        house.failAt(1);
        check.same("16 the power fails", house.commit(), -1);
        check.same("16 the log of before", house.countLog(), 1);
        check.same("16 no cost", house.getBill(0), 1);
        check.same("16 no transaction", house.countWritten(), 0);
        check.same("16 one block comes back", house.powerOn(), 1);
        check.same("16 not committed", house.onPlace(0, 1), 1);
        check.same("16 nor this", house.onPlace(0, 2), 0);
        house.begin();
        house.failAt(1);
        check.same("16 also of nothing", house.commit(), -1);
    }

    private static Writeback withTenInLog() {
        Writeback house = houseOf(16, 0, 0);
        house.setLimit(16);
        for (int turn = 0; turn < 2; turn++) {
            house.begin();
            for (int block = 0; block < 5; block++) {
                house.write(turn, 2 * block, 10 + block);
            }
            house.commit();
        }
        return house;
    }

    private static void commitFillsLog(Check check) {
        Writeback house = withTenInLog();
        check.same("16 ten blocks", house.countLog(), 10);
        house.begin();
        house.write(0, 0, 20);
        check.same("16 a block of the log brings none more", house.commit(), 10);
        check.same("16 no checkpoint", house.getBill(0), 3);
        house.begin();
        house.write(0, 0, 30);
        house.write(0, 1, 30);
        check.same("16 eleven bring a checkpoint", house.commit(), 2);
        check.same("16 the page of the transaction was not flushed", house.onPlace(0, 0), 0);
        check.same("16 the others were", house.onPlace(0, 2) + house.onPlace(1, 8), 11 + 14);
        check.same("16 costs of it", house.getBill(0), 3 + (2 + 1) + 3 * 3 + 9 + 4 * 3 + 1);
        check.same("16 dirty are two", house.countDirty(), 2);
        Writeback other = withTenInLog();
        other.begin();
        other.write(0, 0, 30);
        other.write(0, 1, 30);
        other.failAt(10);
        check.same("16 the power fails behind the checkpoint", other.commit(), -1);
        check.same("16 the log has what was not flushed", other.countLog(), 1);
        check.same("16 that comes back", other.powerOn(), 1);
        check.same("16 as it was committed", other.onPlace(0, 0), 10);
        Writeback third = withTenInLog();
        third.begin();
        third.write(0, 1, 30);
        third.failAt(3);
        check.same("16 the power fails in the checkpoint", third.commit(), -1);
        check.same("16 two were flushed", third.countLog(), 8);
        Writeback fourth = withTenInLog();
        fourth.begin();
        fourth.write(0, 1, 30);
        fourth.sync(1);
        check.same("16 what is flushed has left the log", fourth.commit(), 6);
    }

    private static void commitBesidePlainWrites(Check check) {
        Writeback house = houseOf(8, 0);
        house.begin();
        house.write(0, 1, 5);
        house.commit();
        house.write(0, 1, 6);
        check.same("16 a plain write is not in the log", house.countLog(), 1);
        house.fail();
        house.powerOn();
        check.same("16 the committed value comes back", house.onPlace(0, 1), 5);
        check.same("16 and is read", house.read(0, 1), 5);
    }

    private static void commitKeepsTimes(Check check) {
        Writeback house = houseOf(8, 0);
        house.read(0, 2);
        house.read(0, 1);
        house.begin();
        house.write(0, 1, 5);
        house.write(0, 2, 6);
        house.write(0, 1, 7);
        house.commit();
        house.setLimit(1);
        check.same("16 two are plain dirty ones", house.write(0, 2, 8), 1);
        check.same("16 dirty since its first write", house.onPlace(0, 1), 7);
        check.same("16 the other one stays", house.isDirty(0, 2), true);
    }

    private static void abort(Check check) {
        Writeback house = houseOf(8, 0);
        check.refused("17 no transaction", UNSUPPORTED, house, house::abort);
        house.read(0, 1);
        house.write(0, 2, 7);
        house.begin();
        check.same("17 of nothing", house.abort(), 0);
        house.begin();
        house.write(0, 1, 8);
        house.write(0, 2, 8);
        house.write(0, 2, 9);
        house.write(0, 3, 8);
        house.pin(0, 3);
        house.pin(0, 1);
        check.same("17 three", house.abort(), 3);
        check.same("17 what was clean is so", house.isDirty(0, 1), false);
        check.same("17 its value", house.read(0, 1), 0);
        check.same("17 its pin stays", house.unpin(0, 1), 0);
        check.same("17 what was dirty is so", house.isDirty(0, 2), true);
        check.same("17 its value of before", house.read(0, 2), 7);
        check.same("17 what was in no frame goes, pinned or not", house.frameOf(0, 3), -1);
        check.same("17 no cost", house.getBill(0), 2);
        check.same("17 sound", house.isSound(), true);
        house.begin();
        house.fail();
        check.refused("17 no power", UNSUPPORTED, house, house::abort);
        house.powerOn();
        check.refused("17 lost with the power", UNSUPPORTED, house, house::abort);
    }

    private static void abortKeepsTimes(Check check) {
        Writeback house = houseOf(8, 0);
        house.setLimit(2);
        house.write(0, 1, 1);
        house.write(0, 2, 2);
        house.begin();
        house.write(0, 1, 9);
        house.abort();
        house.write(0, 3, 3);
        check.same("17 dirty since as before", house.onPlace(0, 1), 1);
        check.same("17 the other one stays", house.isDirty(0, 2), true);
        Writeback logged = houseOf(8, 0);
        logged.begin();
        logged.write(0, 1, 4);
        logged.commit();
        logged.begin();
        logged.write(0, 1, 5);
        logged.abort();
        check.same("17 the log keeps what was committed", logged.countLog(), 1);
        logged.sync(0);
        check.same("17 the committed value is flushed", logged.onPlace(0, 1), 4);
        check.same("17 and has left the log", logged.countLog(), 0);
    }

    private static void abortFreesFrames(Check check) {
        Writeback house = houseOf(3, 0);
        house.read(0, 0);
        house.begin();
        house.write(0, 1, 1);
        house.write(0, 2, 1);
        check.same("17 only the plain one can go", house.read(0, 3), 0);
        check.same("17 it went", house.frameOf(0, 0), -1);
        house.abort();
        check.same("17 one page is left", house.countPages(), 1);
        house.read(0, 5);
        check.same("17 the lowest free frame", house.frameOf(0, 5), 1);
        house.begin();
        house.write(0, 3, 1);
        house.abort();
        house.begin();
        house.read(0, 9);
        house.write(0, 9, 1);
        house.abort();
        check.same("17 read first, it stays", house.frameOf(0, 9), 2);
    }

    private static void countWritten(Check check) {
        Writeback house = houseOf(8, 0);
        check.same("18 without one", house.countWritten(), 0);
        house.write(0, 0, 1);
        check.same("18 plain writes", house.countWritten(), 0);
        house.begin();
        check.same("18 nothing yet", house.countWritten(), 0);
        house.write(0, 0, 2);
        house.write(0, 1, 2);
        house.write(0, 1, 3);
        check.same("18 each once", house.countWritten(), 2);
        house.abort();
        check.same("18 behind it", house.countWritten(), 0);
    }

    private static void checkpoint(Check check) {
        Writeback house = houseOf(8, 1, 0, 0);
        check.same("19 nothing", house.checkpoint(), 0);
        house.write(0, 1, 1);
        house.write(2, 4, 2);
        house.write(1, 9, 3);
        house.begin();
        house.write(1, 2, 4);
        house.read(0, 5);
        check.same("19 three", house.checkpoint(), 3);
        check.same("19 by rising places", house.getArm(), 20);
        check.same("19 costs", house.getBill(0), 1 + 10 + 12 + 1);
        check.same("19 flash", house.onPlace(0, 1), 1);
        check.same("19 not of the transaction", house.isDirty(1, 2) && house.onPlace(1, 2) == 0, true);
        check.same("19 dirty", house.countDirty(), 1);
        house.commit();
        house.write(0, 1, 7);
        house.failAt(2);
        check.same("19 the power fails", house.checkpoint(), -1);
        check.same("19 the platter came first", house.onPlace(1, 2) * 10 + house.onPlace(0, 1), 41);
        check.refused("19 no power", UNSUPPORTED, house, house::checkpoint);
    }

    private static void sync(Check check) {
        Writeback house = houseOf(16, 0, 0, 1);
        house.setLimit(16);
        check.refused("20 file 3", BOUNDS, house, () -> house.sync(3));
        check.refused("20 file -1", BOUNDS, house, () -> house.sync(-1));
        check.same("20 nothing", house.sync(0), 0);
        for (int block : new int[] {1, 4, 6, 9}) {
            house.write(0, block, block);
            house.write(2, block, block);
        }
        house.write(1, 3, 1);
        house.read(1, 0);
        house.read(0, 6);
        house.read(0, 5);
        house.read(0, 4);
        long bill = house.getBill(0);
        house.begin();
        house.write(0, 9, 99);
        // The arm is at 5: up 6, then below 1 and 4; 9 is of the transaction.
        check.same("20 three", house.sync(0), 3);
        check.same("20 costs", house.getBill(0) - bill, 2 + 6 + 4);
        check.same("20 the arm", house.getArm(), 4);
        check.same("20 not of the transaction", house.isDirty(0, 9), true);
        check.same("20 not of other files", house.isDirty(1, 3) && house.isDirty(2, 1), true);
        house.commit();
        house.write(0, 4, 44);
        house.write(0, 3, 33);
        bill = house.getBill(0);
        check.same("20 again", house.sync(0), 3);
        check.same("20 from the place of the arm on", house.getBill(0) - bill, 1 + 6 + 7);
        check.same("20 it has left the log", house.countLog(), 0);
        check.same("20 flash", house.sync(2), 4);
        check.same("20 cost on flash", house.getBill(0) - bill, 14 + 4);
        check.same("20 the arm of the platter stays", house.getArm(), 3);
        house.write(0, 1, 5);
        house.read(1, 2);
        house.write(0, 8, 6);
        check.same("20 the arm is above all", house.sync(0), 2);
        check.same("20 from the lowest one", house.getArm(), 8);
        house.write(1, 5, 5);
        check.same("20 the arm is below all", house.sync(1), 2);
        check.same("20 up", house.getArm(), 21);
        syncFails(check);
    }

    private static void syncFails(Check check) {
        Writeback house = houseOf(16, 0, 1);
        house.setLimit(16);
        house.read(0, 5);
        house.write(0, 7, 7);
        house.write(0, 2, 2);
        house.write(0, 3, 3);
        house.failAt(3);
        check.same("20 the power fails below the arm", house.sync(0), -1);
        check.same("20 flushed by then", house.onPlace(0, 7) + house.onPlace(0, 2) + house.onPlace(0, 3), 9);
        check.refused("20 no power", UNSUPPORTED, house, () -> house.sync(0));
        check.refused("20 no file ahead of no power", BOUNDS, house, () -> house.sync(2));
        house.powerOn();
        house.write(1, 9, 9);
        house.write(1, 2, 2);
        house.failAt(2);
        check.same("20 the power fails on flash", house.sync(1), -1);
        check.same("20 by rising places", house.onPlace(1, 2) * 10 + house.onPlace(1, 9), 20);
        house.powerOn();
        house.write(0, 9, 9);
        house.failAt(1);
        check.same("20 the power fails above the arm", house.sync(0), -1);
    }

    private static void countLog(Check check) {
        Writeback house = houseOf(2, 0, 1);
        check.same("21 empty", house.countLog(), 0);
        house.write(0, 0, 1);
        check.same("21 plain writes are not in it", house.countLog(), 0);
        house.begin();
        house.write(0, 0, 2);
        house.write(1, 0, 3);
        check.refused("21 room for no more", STATE, house, () -> house.read(0, 1));
        check.same("21 not committed", house.countLog(), 0);
        house.commit();
        check.same("21 committed", house.countLog(), 2);
        house.read(0, 5);
        check.same("21 evicted, thus flushed", house.countLog(), 1);
        house.fail();
        check.same("21 without power", house.countLog(), 1);
        house.powerOn();
        check.same("21 empty again", house.countLog(), 0);
    }
}
