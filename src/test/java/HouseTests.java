import java.util.NoSuchElementException;

/** What the tests of promises share: the exceptions by short names, and houses to begin with. */
abstract class HouseTests {
    static final Class<IndexOutOfBoundsException> BOUNDS = IndexOutOfBoundsException.class;
    static final Class<IllegalArgumentException> ARGUMENT = IllegalArgumentException.class;
    static final Class<IllegalStateException> STATE = IllegalStateException.class;
    static final Class<UnsupportedOperationException> UNSUPPORTED = UnsupportedOperationException.class;
    static final Class<NoSuchElementException> NO_ELEMENT = NoSuchElementException.class;
    static final Class<ArithmeticException> ARITHMETIC = ArithmeticException.class;

    /** A house with a file on each of the devices told, in their order. */
    static Writeback house(int... devices) {
        Writeback house = new Writeback();
        for (int device : devices) {
            house.addFile(device);
        }
        return house;
    }

    static Writeback houseOf(int frames, int... devices) {
        Writeback house = house(devices);
        house.setFrames(frames);
        return house;
    }

    static void reads(Writeback house, int file, int... blocks) {
        for (int block : blocks) {
            house.read(file, block);
        }
    }

    static String frames(Writeback house, int file, int... blocks) {
        StringBuilder text = new StringBuilder();
        for (int block : blocks) {
            text.append(house.frameOf(file, block)).append(' ');
        }
        return text.toString().trim();
    }
}
