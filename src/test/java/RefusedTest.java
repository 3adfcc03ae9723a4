import java.util.ArrayList;
import java.util.List;

/**
 * A method that throws changes nothing: of two houses made alike one is asked for what is refused, and whatever
 * follows, both answer alike, so that neither hand, ages, what was told nor any other hidden thing has changed.
 */
public final class RefusedTest extends HouseTests {
    private static final int ROWS = 12;
    private static final int CALLS = 50;

    private RefusedTest() {
    }

    private interface Deed {
        Object make(Writeback house);
    }

    public static void main(String[] args) {
        Check check = new Check("RefusedTest");
        setUp(check);
        accesses(check);
        pins(check);
        transactions(check);
        withoutPower(check);
        power(check);
        images(check);
        figures(check);
        check.end();
    }

    private static String answer(Writeback house, Deed deed) {
        try {
            return String.valueOf(deed.make(house));
        } catch (RuntimeException e) {
            return e.getClass().getSimpleName();
        }
    }

    private static void refused(Check check, String what, Class<? extends RuntimeException> kind, Deed[] state,
            Deed refusal) {
        for (int row = 0; row < ROWS; row++) {
            Writeback asked = new Writeback();
            Writeback other = new Writeback();
            for (Deed deed : state) {
                deed.make(asked);
                deed.make(other);
            }
            String before = Sight.of(asked);
            check.same(what, answer(asked, refusal), kind.getSimpleName());
            check.same(what + ": seen behind it", Sight.of(asked), before);
            check.same(what + ": both go on alike", goOn(asked, row), goOn(other, row));
        }
    }

    /** Answers of a row of calls, the same one for each row's number, with all that can be seen behind each. */
    private static List<String> goOn(Writeback house, int row) {
        List<String> answers = new ArrayList<>();
        answers.add(answer(house, Writeback::powerOn));
        answers.add(answer(house, each -> row % 3 == 0 ? each.countWritten() : each.abort()));
        answers.add(answer(house, each -> row % 4 == 0 ? each.failAt(5) : each.failAt(0)));
        answers.add(answer(house, each -> each.setPolicy("lfc".charAt(row % 3))));
        answers.add(answer(house, each -> each.setWindow(row % 3)));
        long state = 31 * row + 5;
        for (int i = 0; i < CALLS; i++) {
            state = state * 6364136223846793005L + 1442695040888963407L;
            int drawn = (int) (state >>> 36);
            answers.add(answer(house, each -> any(each, drawn)) + " " + Sight.of(house));
        }
        answers.add(answer(house, each -> each.setLimit(1)) + answer(house, each -> each.setTenant(1)));
        answers.add(answer(house, each -> each.setFrames(1)) + answer(house, each -> each.begin()));
        return answers;
    }

    private static Object any(Writeback house, int drawn) {
        int file = drawn % 2;
        int block = drawn / 2 % 7;
        switch (drawn / 16 % 24) {
            case 0, 1:
                return house.begin();
            case 2, 3:
                return house.commit();
            case 4:
                return house.sync(file);
            case 5:
                return house.powerOn();
            case 6:
                return house.keepImage(file);
            case 7:
                return house.layBack(block % 3, file);
            case 8, 9, 10, 11, 12, 13:
                return house.write(file, block, drawn / 512 % 5);
            default:
                return house.read(file, block);
        }
    }

    private static Deed[] state(Deed... deeds) {
        return deeds;
    }

    private static Deed write(int file, int block) {
        return house -> house.write(file, block, 3 + block);
    }

    private static Deed read(int file, int block) {
        return house -> house.read(file, block);
    }

    private static Deed pin(int file, int block) {
        return house -> house.pin(file, block);
    }

    private static Deed[] two(Deed... deeds) {
        Deed[] all = new Deed[deeds.length + 4];
        all[0] = house -> house.addFile(0);
        all[1] = house -> house.addFile(1);
        all[2] = house -> house.setFrames(4);
        all[3] = house -> house.setPolicy('c');
        System.arraycopy(deeds, 0, all, 4, deeds.length);
        return all;
    }

    private static void setUp(Check check) {
        Deed[] plain = two(read(0, 0), write(0, 1), read(1, 2), read(0, 4), read(0, 5), house -> house.failAt(7));
        refused(check, "2 no such device", BOUNDS, plain, house -> house.addFile(2));
        refused(check, "2 a 5th", STATE, two(house -> house.addFile(0), house -> house.addFile(0),
                house -> house.addFile(0)), house -> house.addFile(0));
        refused(check, "3 too many", ARGUMENT, plain, house -> house.setFrames(17));
        refused(check, "3 pinned", STATE, two(read(0, 0), write(0, 1), write(0, 2), write(0, 3), pin(0, 1),
                house -> house.failAt(1)), house -> house.setFrames(1));
        refused(check, "3 of the transaction", STATE, two(read(0, 0), write(0, 3), Writeback::begin, write(0, 1),
                write(0, 2)), house -> house.setFrames(2));
        refused(check, "4 policy", ARGUMENT, plain, house -> house.setPolicy('b'));
        refused(check, "5 limit", ARGUMENT, plain, house -> house.setLimit(17));
        refused(check, "6 window", ARGUMENT, plain, house -> house.setWindow(5));
        refused(check, "7 tenant", ARGUMENT, plain, house -> house.setTenant(3));
    }

    private static void accesses(Check check) {
        Deed[] plain = two(read(0, 0), write(0, 1), read(1, 2), read(0, 4), read(0, 5), read(0, 3),
                house -> house.failAt(2));
        refused(check, "8 block", BOUNDS, plain, house -> house.read(0, 16));
        refused(check, "8 file", BOUNDS, plain, house -> house.read(2, 0));
        refused(check, "9 block", BOUNDS, plain, house -> house.write(0, 16, 1));
        refused(check, "9 value", ARGUMENT, plain, house -> house.write(0, 1, 10000));
        Deed[] damaged = two(house -> house.setWindow(2), house -> house.damage(0, 5, 9), write(0, 2), read(0, 1),
                read(0, 3), read(0, 4), house -> house.failAt(1));
        refused(check, "8 damaged, a dirty page would go for it", STATE, damaged, house -> house.read(0, 5));
        Deed[] held = two(read(0, 2), write(0, 3), Writeback::begin, write(0, 0), write(1, 4), pin(0, 2), pin(0, 3));
        refused(check, "8 no page can go", STATE, held, house -> house.read(0, 4));
        refused(check, "9 no page can go", STATE, held, house -> house.write(0, 4, 1));
        Deed[] six = two(house -> house.setFrames(9), read(0, 6), Writeback::begin, write(0, 0), write(1, 1),
                write(0, 2), write(1, 3), write(0, 4), write(1, 5), house -> house.failAt(1));
        refused(check, "9 a 7th block, in a frame", STATE, six, house -> house.write(0, 6, 1));
        refused(check, "9 a 7th block, in none", STATE, six, house -> house.write(0, 1, 1));
        refused(check, "9 a 7th block, a page would go for it", STATE, two(house -> house.setFrames(7), write(0, 6),
                Writeback::begin, write(0, 0), write(1, 1), write(0, 2), write(1, 3), write(0, 4), write(1, 5)),
                house -> house.write(0, 1, 1));
    }

    private static void pins(Check check) {
        Deed[] plain = two(read(0, 0), read(0, 1), pin(0, 1));
        refused(check, "10 block", BOUNDS, plain, house -> house.pin(0, 16));
        refused(check, "10 in no frame", NO_ELEMENT, plain, house -> house.pin(0, 2));
        refused(check, "11 block", BOUNDS, plain, house -> house.unpin(0, -1));
        refused(check, "11 not pinned", NO_ELEMENT, plain, house -> house.unpin(0, 0));
        refused(check, "11 in no frame", NO_ELEMENT, plain, house -> house.unpin(0, 2));
        refused(check, "12 block", BOUNDS, plain, house -> house.frameOf(0, 16));
        refused(check, "13 block", BOUNDS, plain, house -> house.isDirty(0, 16));
        refused(check, "14 block", BOUNDS, plain, house -> house.onPlace(0, 16));
    }

    private static void transactions(Check check) {
        Deed[] going = two(write(0, 0), Writeback::begin, write(0, 1), write(0, 0));
        Deed[] over = two(write(0, 0), Writeback::begin, write(0, 1), Writeback::commit, write(0, 1));
        refused(check, "15 one goes on", UNSUPPORTED, going, Writeback::begin);
        refused(check, "16 none goes on", UNSUPPORTED, over, Writeback::commit);
        refused(check, "17 none goes on", UNSUPPORTED, over, Writeback::abort);
        refused(check, "20 no file", BOUNDS, going, house -> house.sync(2));
    }

    private static void withoutPower(Check check) {
        Deed[] dark = two(read(0, 0), Writeback::begin, write(0, 1), Writeback::commit, Writeback::begin, write(0, 2),
                house -> house.failAt(4), Writeback::fail);
        refused(check, "3 no power", UNSUPPORTED, dark, house -> house.setFrames(2));
        refused(check, "8 no power", UNSUPPORTED, dark, house -> house.read(0, 1));
        refused(check, "9 no power", UNSUPPORTED, dark, house -> house.write(0, 1, 1));
        refused(check, "10 no power, no frame", NO_ELEMENT, dark, house -> house.pin(0, 0));
        refused(check, "11 no power, no frame", NO_ELEMENT, dark, house -> house.unpin(0, 0));
        refused(check, "15 no power", UNSUPPORTED, dark, Writeback::begin);
        refused(check, "16 no power", UNSUPPORTED, dark, Writeback::commit);
        refused(check, "17 no power", UNSUPPORTED, dark, Writeback::abort);
        refused(check, "19 no power", UNSUPPORTED, dark, Writeback::checkpoint);
        refused(check, "20 no power", UNSUPPORTED, dark, house -> house.sync(0));
        refused(check, "22 no power", UNSUPPORTED, dark, house -> house.failAt(1));
        refused(check, "23 no power", UNSUPPORTED, dark, Writeback::fail);
    }

    private static void power(Check check) {
        Deed[] told = two(write(0, 1), read(0, 2), Writeback::begin, write(0, 3), house -> house.failAt(2));
        refused(check, "22 n", ARGUMENT, told, house -> house.failAt(100));
        refused(check, "24 there is power", UNSUPPORTED, told, Writeback::powerOn);
        refused(check, "26 block", BOUNDS, told, house -> house.damage(0, 16, 1));
        refused(check, "26 value", ARGUMENT, told, house -> house.damage(0, 4, -1));
        refused(check, "26 that value", UNSUPPORTED, told, house -> house.damage(0, 4, 0));
        refused(check, "27 device", BOUNDS, told, house -> house.scrub(2));
    }

    private static void images(Check check) {
        Deed[] kept = two(write(0, 1), house -> house.sync(0), house -> house.keepImage(0), write(0, 1), read(0, 3),
                Writeback::begin, write(1, 1), Writeback::commit);
        refused(check, "28 device", BOUNDS, kept, house -> house.keepImage(-1));
        refused(check, "28 four", STATE, two(house -> house.keepImage(0), house -> house.keepImage(1), write(0, 1),
                house -> house.keepImage(0), house -> house.keepImage(1), house -> house.sync(0)),
                house -> house.keepImage(0));
        refused(check, "29 image", BOUNDS, kept, house -> house.layBack(1, 0));
        refused(check, "29 device", BOUNDS, kept, house -> house.layBack(0, 2));
        refused(check, "29 another sort", UNSUPPORTED, kept, house -> house.layBack(0, 1));
        refused(check, "29 a transaction", UNSUPPORTED, two(house -> house.keepImage(0), write(0, 1), read(0, 3),
                Writeback::begin), house -> house.layBack(0, 0));
    }

    private static void figures(Check check) {
        Deed[] plain = two(read(0, 0), write(0, 1));
        refused(check, "38 place", ARGUMENT, plain, house -> house.getWear(64));
        refused(check, "39 tenant", ARGUMENT, plain, house -> house.getBill(3));
        refused(check, "40 policy", ARGUMENT, plain, house -> house.missesBy('x', 1));
        refused(check, "40 frames", ARGUMENT, plain, house -> house.missesBy('c', 17));
        refused(check, "41 misses", ARGUMENT, plain, house -> house.framesFor(101));
        Deed[] idle = two(Writeback::begin, Writeback::commit);
        refused(check, "42 no accesses", ARITHMETIC, idle, Writeback::getHitShare);
        refused(check, "43 no accesses", ARITHMETIC, idle, Writeback::getHitBits);
        refused(check, "44 no accesses", ARITHMETIC, idle, Writeback::getMeanCost);
        refused(check, "8 no file yet", BOUNDS, state(house -> house.setWindow(2)), house -> house.read(0, 0));
    }
}
