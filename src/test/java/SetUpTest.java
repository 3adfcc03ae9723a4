/** Promises 1 to 7: a new object, files, frames, policy, limit, window, tenant. */
public final class SetUpTest extends HouseTests {
    private SetUpTest() {
    }

    public static void main(String[] args) {
        Check check = new Check("SetUpTest");
        newObject(check);
        addFile(check);
        setFrames(check);
        setFramesEvicts(check);
        setFramesAndPower(check);
        setFramesAndHand(check);
        setFramesAndHandBehind(check);
        setPolicy(check);
        setLimit(check);
        setWindow(check);
        setTenant(check);
        check.end();
    }

    private static void newObject(Check check) {
        Writeback house = new Writeback();
        check.same("1 hasPower", house.hasPower(), true);
        check.throwing("1 no file 0", BOUNDS, () -> house.onPlace(0, 0));
        check.same("1 pages", house.countPages(), 0);
        check.same("1 arm", house.getArm(), 0);
        check.same("1 log", house.countLog(), 0);
        check.same("1 written", house.countWritten(), 0);
        check.same("1 checksum", house.checksum(), 1559879149303845255L);
        check.same("1 sound", house.isSound(), true);
        check.same("1 frames", house.setFrames(8), 8);
        check.same("1 policy", house.setPolicy('l'), 'l');
        check.same("1 limit", house.setLimit(4), 4);
        check.same("1 window", house.setWindow(0), 0);
        check.same("1 tenant", house.setTenant(0), 0);
        check.same("1 failAt", house.failAt(0), 0);
        check.same("1 misses", house.missesBy('b', 1), 0);
    }

    private static void addFile(Check check) {
        Writeback house = new Writeback();
        check.refused("2 device -1", BOUNDS, house, () -> house.addFile(-1));
        check.refused("2 device 2", BOUNDS, house, () -> house.addFile(2));
        int[] devices = {1, 0, 0, 1, 0, 1, 0, 1};
        for (int i = 0; i < 8; i++) {
            check.same("2 file " + i, house.addFile(devices[i]), i);
            if (i == 6) {
                check.refused("2 a 5th on the platter", STATE, house, () -> house.addFile(0));
            }
        }
        check.refused("2 a 5th on flash", STATE, house, () -> house.addFile(1));
        check.refused("2 no device ahead of full", BOUNDS, house, () -> house.addFile(2));
        house.read(4, 5);
        check.same("2 the third file of the platter is from 32 on", house.getArm(), 37);
        house.write(5, 6, 1);
        house.sync(5);
        check.same("2 the third file of flash is from 32 on", house.getWear(38), 1);
        Writeback dark = house(0);
        dark.fail();
        check.same("2 without power", dark.addFile(0), 1);
    }

    private static void setFrames(Check check) {
        Writeback house = house(0);
        check.refused("3 frames 0", ARGUMENT, house, () -> house.setFrames(0));
        check.refused("3 frames 17", ARGUMENT, house, () -> house.setFrames(17));
        check.refused("3 frames least int", ARGUMENT, house, () -> house.setFrames(Integer.MIN_VALUE));
        check.same("3 frames 16", house.setFrames(16), 8);
        for (int block = 0; block < 16; block++) {
            house.read(0, block);
        }
        check.same("3 sixteen pages", house.countPages(), 16);
        check.same("3 frames 1", house.setFrames(1), 16);
        check.same("3 one page", house.countPages(), 1);
        check.same("3 it is the lowest", house.frameOf(0, 0), 0);
        house.fail();
        check.refused("3 no power", UNSUPPORTED, house, () -> house.setFrames(3));
        check.refused("3 a wrong number ahead of no power", ARGUMENT, house, () -> house.setFrames(17));
    }

    private static void setFramesEvicts(Check check) {
        Writeback house = house(0);
        house.read(0, 0);
        house.write(0, 9, 5);
        house.write(0, 4, 6);
        house.pin(0, 4);
        check.refused("3 pinned", STATE, house, () -> house.setFrames(2));
        house.unpin(0, 4);
        house.begin();
        house.write(0, 4, 7);
        check.refused("3 of the transaction", STATE, house, () -> house.setFrames(1));
        house.abort();
        house.pin(0, 0);
        check.same("3 a pin ahead of them is no matter", house.setFrames(1), 8);
        check.same("3 dirty ones are flushed", house.onPlace(0, 9), 5);
        check.same("3 the highest first", house.onPlace(0, 4), 6);
        check.same("3 the arm ends at the lower frame's place", house.getArm(), 9);
        check.same("3 costs", house.getBill(0), 1 + 5 + 6);
        check.same("3 gone", house.frameOf(0, 9), -1);
        check.same("3 back to 8", house.setFrames(8), 1);
        check.same("3 the lowest free frame", house.read(0, 4), 6);
        check.same("3 frame 1", house.frameOf(0, 4), 1);
    }

    private static void setFramesAndPower(Check check) {
        Writeback house = house(0);
        house.write(0, 0, 5);
        house.write(0, 1, 6);
        house.write(0, 2, 7);
        house.failAt(2);
        check.same("3 the power fails", house.setFrames(1), -1);
        check.same("3 flushed by then", house.onPlace(0, 2), 7);
        check.same("3 not flushed", house.onPlace(0, 1), 0);
        check.same("3 no pages", house.countPages(), 0);
        house.powerOn();
        check.same("3 as many frames as before", house.setFrames(8), 8);
        Writeback other = withHandAtThree();
        other.write(0, 3, 8);
        other.failAt(1);
        check.same("3 the power fails behind the hand's frame", other.setFrames(2), -1);
        other.powerOn();
        for (int block = 0; block < 5; block++) {
            other.read(0, 3 * block);
        }
        check.same("3 the hand as before", other.frameOf(0, 12), 3);
    }

    /** Four frames, the hand at the last one, whose page alone was not used since it passed. */
    private static Writeback withHandAtThree() {
        Writeback house = houseOf(4, 0);
        house.setPolicy('c');
        for (int block = 0; block < 4; block++) {
            house.read(0, block);
        }
        house.pin(0, 0);
        house.pin(0, 1);
        house.read(0, 4);
        house.unpin(0, 0);
        house.unpin(0, 1);
        return house;
    }

    private static void setFramesAndHand(Check check) {
        Writeback house = withHandAtThree();
        check.same("3 the hand took frame 2", house.frameOf(0, 4), 2);
        house.setFrames(3);
        // The hand was at 3 and goes to 0; all three pages were used since it passed them.
        house.read(0, 5);
        check.same("3 a hand behind them goes to 0", house.frameOf(0, 5), 0);
        house.pin(0, 5);
        house.pin(0, 1);
        house.read(0, 6);
        check.same("3 the hand is behind the last frame, at 0", house.frameOf(0, 6), 2);
        house.unpin(0, 5);
        house.setFrames(4);
        house.read(0, 7);
        house.read(0, 8);
        // At 0 the page loses that it was used, 1 is pinned, 2 and 3 lose it, then 0 goes.
        check.same("3 more frames do not move it", house.frameOf(0, 8), 0);
    }

    private static void setFramesAndHandBehind(Check check) {
        Writeback house = withHandAtThree();
        house.setFrames(3);
        house.setFrames(4);
        house.read(0, 5);
        house.read(0, 6);
        check.same("3 it went to 0 for good", house.frameOf(0, 6), 0);
    }

    private static void setPolicy(Check check) {
        Writeback house = house(0);
        for (char wrong : new char[] {'b', 'x', 'L', (char) 0, (char) 65535}) {
            check.refused("4 policy " + (int) wrong, ARGUMENT, house, () -> house.setPolicy(wrong));
        }
        check.same("4 to f", house.setPolicy('f'), 'l');
        check.same("4 to c", house.setPolicy('c'), 'f');
        check.same("4 to l", house.setPolicy('l'), 'c');
        house.fail();
        check.same("4 without power", house.setPolicy('f'), 'l');
    }

    private static void setLimit(Check check) {
        Writeback house = house(0);
        check.refused("5 limit 0", ARGUMENT, house, () -> house.setLimit(0));
        check.refused("5 limit 17", ARGUMENT, house, () -> house.setLimit(17));
        check.same("5 to 16", house.setLimit(16), 4);
        for (int block = 0; block < 5; block++) {
            house.write(0, block, 1 + block);
        }
        check.same("5 to 1", house.setLimit(1), 16);
        check.same("5 it holds from the next write on", house.countDirty(), 5);
        check.same("5 the next write", house.write(0, 4, 9), 4);
        check.same("5 one is left", house.isDirty(0, 4), true);
        check.same("5 all others are clean", house.countDirty(), 1);
    }

    private static void setWindow(Check check) {
        Writeback house = house(0);
        check.refused("6 window -1", ARGUMENT, house, () -> house.setWindow(-1));
        check.refused("6 window 5", ARGUMENT, house, () -> house.setWindow(5));
        check.same("6 to 4", house.setWindow(4), 0);
        check.same("6 to 1", house.setWindow(1), 4);
        house.read(0, 1);
        house.read(0, 2);
        check.same("6 one came ahead", house.countAhead(), 1);
    }

    private static void setTenant(Check check) {
        Writeback house = house(0);
        check.refused("7 tenant -1", ARGUMENT, house, () -> house.setTenant(-1));
        check.refused("7 tenant 3", ARGUMENT, house, () -> house.setTenant(3));
        check.same("7 to 2", house.setTenant(2), 0);
        house.read(0, 3);
        check.same("7 to 1", house.setTenant(1), 2);
        house.read(0, 4);
        check.same("7 bill 0", house.getBill(0), 0);
        check.same("7 bill 1", house.getBill(1), 2);
        check.same("7 bill 2", house.getBill(2), 4);
    }
}
