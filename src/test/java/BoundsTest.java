/** Each number that a call takes, on both sides of its bounds, with the least and the greatest int. */
public final class BoundsTest extends HouseTests {
    private static final int LEAST = Integer.MIN_VALUE;
    private static final int GREATEST = Integer.MAX_VALUE;

    private BoundsTest() {
    }

    private interface Maker {
        Writeback make();
    }

    private interface Taker {
        Object take(Writeback house, int number);
    }

    private interface Place {
        Object at(Writeback house, int file, int block);
    }

    public static void main(String[] args) {
        Check check = new Check("BoundsTest");
        devices(check);
        settings(check);
        policies(check);
        places(check);
        values(check);
        syncs(check);
        failures(check);
        images(check);
        counts(check);
        traces(check);
        firstDocumentedOfSetUp(check);
        firstDocumentedOfAccesses(check);
        firstDocumentedOfOthers(check);
        check.end();
    }

    /** Refuses what is beyond the ends; 256 and 65536 more than the least one would be it in a byte or a char. */
    private static void refusedBeyond(Check check, String what, Class<? extends RuntimeException> kind, int least,
            int most, Maker maker, Taker taker) {
        int[] beyond = {LEAST, LEAST + least, least - 1, most + 1, most + 2, least + 256, least + 65536,
            GREATEST - 1, GREATEST};
        for (int number : beyond) {
            Writeback house = maker.make();
            if (number < least || number > most) {
                check.refused(what + " " + number, kind, house, () -> taker.take(house, number));
            }
        }
    }

    private static void devices(Check check) {
        refusedBeyond(check, "2 device", BOUNDS, 0, 1, Writeback::new, Writeback::addFile);
        refusedBeyond(check, "27 device", BOUNDS, 0, 1, Writeback::new, Writeback::scrub);
        refusedBeyond(check, "28 device", BOUNDS, 0, 1, Writeback::new, Writeback::keepImage);
        for (int device = 0; device < 2; device++) {
            check.same("2 device " + device, new Writeback().addFile(device), 0);
            check.same("27 device " + device, new Writeback().scrub(device), 0);
            check.same("28 device " + device, new Writeback().keepImage(device), 0);
        }
    }

    private static void settings(Check check) {
        refusedBeyond(check, "3 frames", ARGUMENT, 1, 16, () -> house(0), Writeback::setFrames);
        refusedBeyond(check, "5 limit", ARGUMENT, 1, 16, () -> house(0), Writeback::setLimit);
        refusedBeyond(check, "6 window", ARGUMENT, 0, 4, () -> house(0), Writeback::setWindow);
        refusedBeyond(check, "7 tenant", ARGUMENT, 0, 2, () -> house(0), Writeback::setTenant);
        Writeback house = house(0);
        check.same("3 to the least", house.setFrames(1), 8);
        check.same("3 to the most", house.setFrames(16), 1);
        check.same("3 to the same", house.setFrames(16), 16);
        check.same("5 to the least", house.setLimit(1), 4);
        check.same("5 to the most", house.setLimit(16), 1);
        check.same("5 to the same", house.setLimit(16), 16);
        check.same("6 to the least", house.setWindow(0), 0);
        check.same("6 to the most", house.setWindow(4), 0);
        check.same("6 to the same", house.setWindow(4), 4);
        check.same("7 to the least", house.setTenant(0), 0);
        check.same("7 to the most", house.setTenant(2), 0);
        check.same("7 to the same", house.setTenant(2), 2);
    }

    private static void policies(Check check) {
        for (int sign = 0; sign <= Character.MAX_VALUE; sign++) {
            char policy = (char) sign;
            if (sign > 300 && sign < 65000 && sign % 256 != 'l' && sign % 256 != 'f' && sign % 256 != 'c') {
                continue;
            }
            Writeback house = new Writeback();
            if (policy == 'l' || policy == 'f' || policy == 'c') {
                check.same("4 policy " + policy, house.setPolicy(policy), 'l');
                check.same("4 policy of before " + policy, house.setPolicy('l'), policy);
            } else {
                check.throwing("4 policy " + sign, ARGUMENT, () -> house.setPolicy(policy));
                check.same("4 it stays by " + sign, house.setPolicy('f'), 'l');
            }
        }
    }

    /** Three files; the first and the last block of each is in a frame, pinned once. */
    private static Writeback pinnedAtEnds() {
        Writeback house = houseOf(16, 0, 1, 0);
        for (int file = 0; file < 3; file++) {
            for (int block = 0; block < 16; block += 15) {
                house.read(file, block);
                house.pin(file, block);
            }
        }
        return house;
    }

    private static void places(Check check) {
        place(check, "8 read", Writeback::read, 0);
        place(check, "9 write", (house, file, block) -> house.write(file, block, 1), 0);
        place(check, "10 pin", Writeback::pin, 2);
        place(check, "11 unpin", Writeback::unpin, 0);
        place(check, "13 isDirty", Writeback::isDirty, false);
        place(check, "14 onPlace", Writeback::onPlace, 0);
        place(check, "26 damage", (house, file, block) -> house.damage(file, block, 1), 0);
        place(check, "12 frameOf", (house, file, block) -> house.frameOf(file, block) - 2 * file - block / 15, 0);
    }

    private static void place(Check check, String what, Place call, Object due) {
        for (int file = 0; file < 3; file++) {
            int each = file;
            refusedBeyond(check, what + " file " + file + " block", BOUNDS, 0, 15, BoundsTest::pinnedAtEnds,
                    (house, number) -> call.at(house, each, number));
            check.same(what + " file " + file + " block 0", call.at(pinnedAtEnds(), file, 0), due);
            check.same(what + " file " + file + " block 15", call.at(pinnedAtEnds(), file, 15), due);
        }
        refusedBeyond(check, what + " block 0 of file", BOUNDS, 0, 2, BoundsTest::pinnedAtEnds,
                (house, number) -> call.at(house, number, 0));
        refusedBeyond(check, what + " block 15 of file", BOUNDS, 0, 2, BoundsTest::pinnedAtEnds,
                (house, number) -> call.at(house, number, 15));
        refusedBeyond(check, what + " without files, file", BOUNDS, 0, -1, Writeback::new,
                (house, number) -> call.at(house, number, 0));
        Writeback full = house(0, 0, 0, 0, 1, 1, 1, 1);
        check.refused(what + " file 8 of 8", BOUNDS, full, () -> call.at(full, 8, 0));
        full.read(7, 15);
        full.pin(7, 15);
        boolean isFrameOf = what.startsWith("12");
        check.same(what + " file 7 of 8", isFrameOf ? full.frameOf(7, 15) : call.at(full, 7, 15), due);
    }

    private static void values(Check check) {
        refusedBeyond(check, "9 value", ARGUMENT, 0, 9999, () -> house(0),
                (house, number) -> house.write(0, 0, number));
        refusedBeyond(check, "26 value", ARGUMENT, 0, 9999, () -> house(0),
                (house, number) -> house.damage(0, 0, number));
        for (int value : new int[] {0, 1, 9998, 9999}) {
            Writeback house = house(0);
            check.same("9 value " + value, house.write(0, 0, value), 0);
            check.same("9 it is read, " + value, house.read(0, 0), value);
            house.sync(0);
            check.same("9 it is on its place, " + value, house.onPlace(0, 0), value);
            check.same("26 from value " + value, house.damage(0, 0, 5), value);
            check.same("26 to value " + value, house.damage(0, 0, value), 5);
            check.same("26 it is there, " + value, house.onPlace(0, 0), value);
        }
    }

    private static void syncs(Check check) {
        refusedBeyond(check, "20 file of 3", BOUNDS, 0, 2, BoundsTest::pinnedAtEnds, Writeback::sync);
        refusedBeyond(check, "20 file of none", BOUNDS, 0, -1, Writeback::new, Writeback::sync);
        check.same("20 file 0 of 3", pinnedAtEnds().sync(0), 0);
        check.same("20 file 2 of 3", pinnedAtEnds().sync(2), 0);
        Writeback full = house(0, 0, 0, 0, 1, 1, 1, 1);
        check.same("20 file 7 of 8", full.sync(7), 0);
        check.refused("20 file 8 of 8", BOUNDS, full, () -> full.sync(8));
    }

    private static void failures(Check check) {
        refusedBeyond(check, "22 n", ARGUMENT, 0, 99, () -> house(0), Writeback::failAt);
        Writeback house = house(0);
        for (int n : new int[] {0, 1, 98, 99}) {
            check.same("22 n " + n, house.failAt(n), 0);
            check.refused("22 n 100 behind " + n, ARGUMENT, house, () -> house.failAt(100));
            check.refused("22 n -1 behind " + n, ARGUMENT, house, () -> house.failAt(-1));
            check.same("22 what was told stays, " + n, house.failAt(0), n);
        }
    }

    private static void images(Check check) {
        refusedBeyond(check, "29 image of none", BOUNDS, 0, -1, () -> house(0),
                (house, number) -> house.layBack(number, 0));
        for (int kept = 1; kept <= 4; kept++) {
            int count = kept;
            Maker maker = () -> {
                Writeback house = house(0, 1);
                for (int i = 0; i < count; i++) {
                    house.keepImage(0);
                }
                return house;
            };
            refusedBeyond(check, "29 image of " + kept, BOUNDS, 0, kept - 1, maker,
                    (house, number) -> house.layBack(number, 0));
            refusedBeyond(check, "29 device, with images " + kept, BOUNDS, 0, 1, maker,
                    (house, number) -> house.layBack(count - 1, number));
            check.same("29 the first image of " + kept, maker.make().layBack(0, 0), 0);
            check.same("29 the last image of " + kept, maker.make().layBack(kept - 1, 0), 0);
        }
    }

    private static void counts(Check check) {
        refusedBeyond(check, "38 place", ARGUMENT, 0, 63, () -> house(1), Writeback::getWear);
        refusedBeyond(check, "39 tenant", ARGUMENT, 0, 2, () -> house(1), Writeback::getBill);
        Writeback house = house(1, 1, 1, 1);
        house.write(0, 0, 1);
        house.write(3, 15, 1);
        house.write(3, 15, 2);
        house.checkpoint();
        house.write(3, 15, 3);
        house.checkpoint();
        check.same("38 place 0", house.getWear(0), 1);
        check.same("38 place 1", house.getWear(1), 0);
        check.same("38 place 62", house.getWear(62), 0);
        check.same("38 place 63", house.getWear(63), 2);
        house.setTenant(2);
        house.read(0, 5);
        check.same("39 tenant 0", house.getBill(0), 3);
        check.same("39 tenant 1", house.getBill(1), 0);
        check.same("39 tenant 2", house.getBill(2), 1);
    }

    private static void traces(Check check) {
        Maker maker = () -> {
            Writeback house = house(0);
            reads(house, 0, 0, 1, 0, 1);
            return house;
        };
        for (char policy : new char[] {'l', 'f', 'c', 'b'}) {
            refusedBeyond(check, "40 frames by " + policy, ARGUMENT, 1, 16, maker,
                    (house, number) -> house.missesBy(policy, number));
            check.same("40 frames 1 by " + policy, maker.make().missesBy(policy, 1), 4);
            check.same("40 frames 16 by " + policy, maker.make().missesBy(policy, 16), 2);
        }
        Writeback house = maker.make();
        for (int sign : new int[] {0, 'a', 'd', 'e', 'g', 'k', 'm', 'L', 'F', 'C', 'B', 256 + 'b', 65535}) {
            check.refused("40 policy " + sign, ARGUMENT, house, () -> house.missesBy((char) sign, 1));
            check.refused("40 policy and frames " + sign, ARGUMENT, house, () -> house.missesBy((char) sign, 0));
        }
        refusedBeyond(check, "41 misses", ARGUMENT, 0, 100, maker, Writeback::framesFor);
        check.same("41 misses 0", house.framesFor(0), 17);
        check.same("41 misses 1", house.framesFor(1), 17);
        check.same("41 misses 2", house.framesFor(2), 2);
        check.same("41 misses 3", house.framesFor(3), 2);
        check.same("41 misses 4", house.framesFor(4), 1);
        check.same("41 misses 100", house.framesFor(100), 1);
    }

    private static void firstDocumentedOfSetUp(Check check) {
        Writeback full = house(0, 0, 0, 0, 1, 1, 1, 1);
        check.refused("2 no such device ahead of full ones", BOUNDS, full, () -> full.addFile(2));
        check.refused("2 nor below", BOUNDS, full, () -> full.addFile(-1));
        Writeback pinned = house(0);
        reads(pinned, 0, 0, 1);
        pinned.pin(0, 1);
        check.refused("3 out of range ahead of a pinned page", ARGUMENT, pinned, () -> pinned.setFrames(0));
        check.refused("3 a pinned page alone", STATE, pinned, () -> pinned.setFrames(1));
        pinned.fail();
        check.refused("3 out of range ahead of no power", ARGUMENT, pinned, () -> pinned.setFrames(0));
        check.refused("3 no power alone", UNSUPPORTED, pinned, () -> pinned.setFrames(1));
    }

    private static void firstDocumentedOfAccesses(Check check) {
        Writeback dark = house(0);
        dark.damage(0, 3, 7);
        dark.fail();
        check.refused("8 no block ahead of no power", BOUNDS, dark, () -> dark.read(0, 16));
        check.refused("8 no power ahead of damage", UNSUPPORTED, dark, () -> dark.read(0, 3));
        check.refused("9 no block ahead of a wrong value", BOUNDS, dark, () -> dark.write(0, -1, -1));
        check.refused("9 no file ahead of a wrong value", BOUNDS, dark, () -> dark.write(1, 0, 10000));
        check.refused("9 a wrong value ahead of no power", ARGUMENT, dark, () -> dark.write(0, 3, 10000));
        check.refused("9 no power alone", UNSUPPORTED, dark, () -> dark.write(0, 3, 9999));
        check.refused("10 no block ahead of no frame", BOUNDS, dark, () -> dark.pin(0, 16));
        check.refused("10 no frame alone", NO_ELEMENT, dark, () -> dark.pin(0, 15));
        check.refused("11 no block ahead of no frame", BOUNDS, dark, () -> dark.unpin(0, 16));
        check.refused("11 no frame alone", NO_ELEMENT, dark, () -> dark.unpin(0, 15));
        Writeback tight = houseOf(1, 0);
        tight.begin();
        tight.write(0, 0, 1);
        check.refused("8 no block ahead of no room", BOUNDS, tight, () -> tight.read(0, 16));
        check.refused("9 a wrong value ahead of no room", ARGUMENT, tight, () -> tight.write(0, 1, -1));
        check.refused("9 no room alone", STATE, tight, () -> tight.write(0, 1, 0));
        Writeback six = house(0);
        six.begin();
        for (int block = 0; block < 6; block++) {
            six.write(0, block, 1);
        }
        check.refused("9 no block ahead of a 7th one", BOUNDS, six, () -> six.write(0, 16, 1));
        check.refused("9 a wrong value ahead of a 7th block", ARGUMENT, six, () -> six.write(0, 6, 10000));
        check.refused("9 a 7th block alone", STATE, six, () -> six.write(0, 6, 9999));
    }

    private static void firstDocumentedOfOthers(Check check) {
        Writeback dark = house(0, 1);
        dark.keepImage(0);
        dark.fail();
        check.refused("20 no file ahead of no power", BOUNDS, dark, () -> dark.sync(2));
        check.refused("20 no power alone", UNSUPPORTED, dark, () -> dark.sync(1));
        check.refused("22 out of range ahead of no power", ARGUMENT, dark, () -> dark.failAt(-1));
        check.refused("22 no power alone", UNSUPPORTED, dark, () -> dark.failAt(0));
        check.refused("26 no block ahead of a wrong value", BOUNDS, dark, () -> dark.damage(0, 16, -1));
        check.refused("26 no file ahead of a wrong value", BOUNDS, dark, () -> dark.damage(2, 0, 10000));
        check.refused("26 that value alone", UNSUPPORTED, dark, () -> dark.damage(0, 0, 0));
        check.refused("29 no image ahead of another sort", BOUNDS, dark, () -> dark.layBack(1, 1));
        check.refused("29 no device ahead of another sort", BOUNDS, dark, () -> dark.layBack(0, 2));
        check.refused("29 another sort alone", UNSUPPORTED, dark, () -> dark.layBack(0, 1));
        dark.powerOn();
        dark.begin();
        check.refused("29 no image ahead of a transaction", BOUNDS, dark, () -> dark.layBack(-1, 0));
        check.refused("29 no device ahead of a transaction", BOUNDS, dark, () -> dark.layBack(0, -1));
        check.refused("29 a transaction alone", UNSUPPORTED, dark, () -> dark.layBack(0, 0));
        for (int i = 0; i < 3; i++) {
            dark.keepImage(1);
        }
        check.refused("28 no such device ahead of four images", BOUNDS, dark, () -> dark.keepImage(2));
        check.refused("28 four images alone", STATE, dark, () -> dark.keepImage(1));
    }
}
