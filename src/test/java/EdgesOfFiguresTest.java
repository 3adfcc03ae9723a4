import java.util.ArrayList;
import java.util.Arrays;
import java.util.List;

/** Boundary cases of promises 30 to 46: counts, the trace, figures, and an object's 512 calls. */
public final class EdgesOfFiguresTest extends HouseTests {
    private EdgesOfFiguresTest() {
    }

    public static void main(String[] args) {
        Check check = new Check("EdgesOfFiguresTest");
        countsAtTheEnds(check);
        emptyTrace(check);
        lastHundred(check);
        refusedAreNotInTheTrace(check);
        traceIsLikeAHouse(check);
        traceHasNoPins(check);
        traceKnowsFilesAndBlocks(check);
        bestOfEachPage(check);
        best(check);
        framesForEachNumber(check);
        framesForSixteen(check);
        framesForAHundred(check);
        shareAtTheEnds(check);
        shareByPowerFailure(check);
        meanAtTheEnds(check);
        checksumAtTheEnds(check);
        checksumInItsOrder(check);
        soundAtTheEnds(check);
        lastCalls(check);
        check.end();
    }

    private static Writeback wide(int... devices) {
        Writeback house = houseOf(16, devices);
        house.setLimit(16);
        return house;
    }

    private static void countsAtTheEnds(Check check) {
        Writeback house = wide(0);
        for (int block = 0; block < 16; block++) {
            check.same("30 pages by now", house.countPages(), block);
            check.same("31 dirty pages by now", house.countDirty(), block);
            check.same("34 misses by now", house.countMisses(), block);
            house.write(0, block, 1);
        }
        check.same("30 all sixteen frames", house.countPages(), 16);
        check.same("31 all dirty", house.countDirty(), 16);
        check.same("33 no hit", house.countHits(), 0);
        house.begin();
        house.write(0, 0, 2);
        check.same("31 those of the transaction, too", house.countDirty(), 16);
        check.same("33 one", house.countHits(), 1);
        house.setFrames(1);
        check.same("30 one frame", house.countPages() * 10 + house.countDirty(), 11);
    }

    private static void emptyTrace(Check check) {
        Writeback house = wide(0);
        house.setWindow(4);
        house.begin();
        house.commit();
        for (char policy : new char[] {'l', 'f', 'c', 'b'}) {
            check.same("40 nothing by " + policy + ", 1", house.missesBy(policy, 1), 0);
            check.same("40 nothing by " + policy + ", 16", house.missesBy(policy, 16), 0);
        }
        check.same("41 nothing, at most 0", house.framesFor(0), 1);
        check.same("41 nothing, at most 100", house.framesFor(100), 1);
        house.read(0, 0);
        check.same("40 one access", house.missesBy('b', 1) + house.missesBy('l', 16), 2);
        check.same("41 one access, at most 0", house.framesFor(0), 17);
        check.same("41 one access, at most 1", house.framesFor(1), 1);
    }

    private static String allMisses(Writeback house) {
        StringBuilder text = new StringBuilder();
        for (char policy : new char[] {'l', 'f', 'c', 'b'}) {
            for (int frames = 1; frames <= 16; frames++) {
                text.append(policy).append(frames).append(' ').append(house.missesBy(policy, frames)).append(' ');
            }
        }
        return text.toString();
    }

    /** Numbers drawn by a rule of our own, below the bound. */
    private static int[] drawn(int seed, int count, int bound) {
        int[] row = new int[count];
        long state = seed * 7919L + 3;
        for (int i = 0; i < count; i++) {
            state = state * 6364136223846793005L + 1442695040888963407L;
            row[i] = (int) ((state >>> 33) % bound);
        }
        return row;
    }

    /** Reads those from a number on; each is 16 times the file plus the block. */
    private static Writeback readFrom(int[] row, int from) {
        Writeback house = houseOf(3, 0, 1);
        for (int i = from; i < row.length; i++) {
            house.read(row[i] / 16, row[i] % 16);
        }
        return house;
    }

    private static void lastHundred(Check check) {
        for (int count : new int[] {1, 2, 99, 100, 101, 102, 199, 200, 201, 400}) {
            int[] row = drawn(count, count, 22);
            check.same("40 the last 100 of " + count, allMisses(readFrom(row, 0)),
                    allMisses(readFrom(row, Math.max(0, count - 100))));
        }
        Writeback house = wide(0, 0);
        house.read(1, 7);
        for (int i = 0; i < 99; i++) {
            house.read(0, 0);
        }
        check.same("40 a hundred, with the first", house.missesBy('b', 16), 2);
        house.read(0, 0);
        check.same("40 the first is gone by the 101st", house.missesBy('b', 16), 1);
        house.read(0, 1);
        check.same("40 the last one is in it", house.missesBy('b', 16), 2);
    }

    private static void refusedAreNotInTheTrace(Check check) {
        Writeback house = houseOf(1, 0);
        house.damage(0, 9, 1);
        house.read(0, 0);
        house.pin(0, 0);
        check.throwing("8 no room", STATE, () -> house.read(0, 1));
        check.throwing("9 no room", STATE, () -> house.write(0, 1, 1));
        check.throwing("9 a wrong value", ARGUMENT, () -> house.write(0, 1, -1));
        check.throwing("8 no such block", BOUNDS, () -> house.read(0, 16));
        house.unpin(0, 0);
        check.throwing("8 damaged", STATE, () -> house.read(0, 9));
        check.same("40 one access", house.missesBy('l', 1), 1);
        check.same("34 one miss", house.countMisses(), 1);
        house.fail();
        check.throwing("8 no power", UNSUPPORTED, () -> house.read(0, 1));
        check.same("40 one access still", house.missesBy('l', 1), 1);
    }

    /** A house of that many frames has as many misses as the policy on its trace, from the first access on. */
    private static void traceIsLikeAHouse(Check check) {
        for (int frames = 1; frames <= 16; frames++) {
            for (char policy : new char[] {'l', 'f', 'c'}) {
                Writeback house = houseOf(frames, 0, 1);
                house.setPolicy(policy);
                int[] row = drawn(frames * 31 + policy, 100, 3 + 2 * frames > 32 ? 32 : 3 + 2 * frames);
                for (int i = 0; i < row.length; i++) {
                    if (i % 3 == 0) {
                        house.write(row[i] / 16, row[i] % 16, 1);
                    } else {
                        house.read(row[i] / 16, row[i] % 16);
                    }
                    if (i % 20 == 19) {
                        check.same("40 by " + policy + " with " + frames, house.missesBy(policy, frames),
                                house.countMisses());
                    }
                }
                check.same("40 asked again, by " + policy + " with " + frames, house.missesBy(policy, frames),
                        house.countMisses());
            }
        }
    }

    private static void traceHasNoPins(Check check) {
        Writeback house = houseOf(2, 0);
        house.read(0, 0);
        house.pin(0, 0);
        reads(house, 0, 2, 4, 0, 2);
        check.same("34 four misses with a pin", house.countMisses(), 4);
        check.same("40 five without", house.missesBy('l', 2), 5);
        Writeback ahead = houseOf(8, 0);
        ahead.setWindow(4);
        reads(ahead, 0, 4, 5, 6, 7, 8, 9);
        check.same("34 two misses with reading ahead", ahead.countMisses(), 2);
        check.same("40 six without", ahead.missesBy('l', 8), 6);
        Writeback dark = houseOf(8, 0);
        reads(dark, 0, 4, 6);
        dark.fail();
        dark.powerOn();
        reads(dark, 0, 4, 6);
        check.same("34 four misses with the power failing", dark.countMisses(), 4);
        check.same("40 two without", dark.missesBy('f', 2), 2);
    }

    private static void traceKnowsFilesAndBlocks(Check check) {
        Writeback house = house(0, 0, 0, 0, 1, 1, 1, 1);
        for (int file = 0; file < 8; file++) {
            house.read(file, 0);
            house.read(file, 15);
        }
        for (char policy : new char[] {'l', 'f', 'c', 'b'}) {
            check.same("40 the first and the last block of each file, by " + policy, house.missesBy(policy, 16), 16);
        }
        for (int file = 0; file < 8; file++) {
            house.read(file, 0);
            house.read(file, 15);
        }
        check.same("40 each of them again, with 16", house.missesBy('l', 16), 16);
        check.same("40 with 15, round and round", house.missesBy('l', 15), 32);
        check.same("40 the fewest with 15", house.missesBy('b', 15), 17);
        Writeback last = house(0, 0, 0, 0, 1, 1, 1, 1);
        reads(last, 7, 15, 15);
        last.read(0, 0);
        reads(last, 7, 15, 14);
        check.same("40 the last block of the last file, by b", last.missesBy('b', 1), 4);
        check.same("40 with two", last.missesBy('b', 2), 3);
    }

    private static void bestOfEachPage(Check check) {
        for (int page = 0; page < 128; page++) {
            Writeback house = house(0, 0, 0, 0, 1, 1, 1, 1);
            house.read(page / 16, page % 16);
            int other = (page + 1) % 128;
            int third = (page + 2) % 128;
            house.read(other / 16, other % 16);
            house.read(third / 16, third % 16);
            house.read(other / 16, other % 16);
            check.same("40 b: the page that never comes again is " + page, house.missesBy('b', 2), 3);
            check.same("40 b: asked again, " + page, house.missesBy('b', 2), 3);
            house.read(page / 16, page % 16);
            check.same("40 b: the page that comes last is " + page, house.missesBy('b', 2), 4);
        }
    }

    /** The fewest misses, by looking at the rest of the row for each page that could go. */
    private static int fewest(int[] row, int frames) {
        List<Integer> in = new ArrayList<>();
        int misses = 0;
        for (int i = 0; i < row.length; i++) {
            if (in.contains(row[i])) {
                continue;
            }
            misses++;
            if (in.size() == frames) {
                int farthest = 0;
                for (int k = 1; k < in.size(); k++) {
                    farthest = next(row, i, in.get(k)) > next(row, i, in.get(farthest)) ? k : farthest;
                }
                in.remove(farthest);
            }
            in.add(row[i]);
        }
        return misses;
    }

    private static int next(int[] row, int from, int page) {
        for (int i = from; i < row.length; i++) {
            if (row[i] == page) {
                return i;
            }
        }
        return row.length;
    }

    private static void best(Check check) {
        for (int seed = 0; seed < 40; seed++) {
            int[] row = drawn(seed, 20 + 2 * seed, 2 + seed % 31);
            Writeback house = readFrom(row, 0);
            for (int frames = 1; frames <= 16; frames++) {
                check.same("40 the fewest of row " + seed + " with " + frames, house.missesBy('b', frames),
                        fewest(row, frames));
                for (char policy : new char[] {'l', 'f', 'c'}) {
                    check.same("46 no more than by " + policy, house.missesBy('b', frames)
                            <= house.missesBy(policy, frames), true);
                }
            }
        }
        Writeback never = houseOf(3, 0);
        reads(never, 0, 0, 1, 2, 0, 3, 0);
        check.same("40 b: those that never come again go first", never.missesBy('b', 2), 4);
        check.same("40 l: that which was used longest ago goes", never.missesBy('l', 2), 5);
    }

    private static void framesForEachNumber(Check check) {
        for (int seed = 0; seed < 6; seed++) {
            int[] row = drawn(seed + 50, 70 + 6 * seed, 10 + 4 * seed);
            Writeback house = readFrom(row, 0);
            for (int misses = 0; misses <= 100; misses++) {
                int due = 1;
                while (due <= 16 && fewest(row, due) > misses) {
                    due++;
                }
                check.same("41 row " + seed + " at most " + misses, house.framesFor(misses), due);
            }
        }
    }

    /** Some pages round and round, as often as told. */
    private static Writeback rounds(int pages, int times) {
        Writeback house = house(0, 0);
        for (int i = 0; i < pages * times; i++) {
            house.read(i % pages / 16, i % pages % 16);
        }
        return house;
    }

    private static void framesForSixteen(Check check) {
        Writeback sixteen = rounds(16, 3);
        check.same("41 sixteen pages, at most 15", sixteen.framesFor(15), 17);
        check.same("41 sixteen pages, at most 16", sixteen.framesFor(16), 16);
        check.same("41 sixteen pages, at most 17", sixteen.framesFor(17), 16);
        check.same("41 sixteen pages, at most 18", sixteen.framesFor(18), 15);
        check.same("41 sixteen pages, at most 48", sixteen.framesFor(48), 1);
        Writeback seventeen = rounds(17, 2);
        check.same("41 seventeen pages, at most 17", seventeen.framesFor(17), 17);
        check.same("41 seventeen pages, at most 18", seventeen.framesFor(18), 16);
        check.same("41 seventeen pages, at most 19", seventeen.framesFor(19), 15);
    }

    private static void framesForAHundred(Check check) {
        Writeback house = house(0);
        for (int i = 0; i < 100; i++) {
            house.read(0, i % 3);
        }
        check.same("41 a hundred misses with one frame", house.missesBy('b', 1), 100);
        check.same("41 at most 100", house.framesFor(100), 1);
        check.same("41 at most 99", house.framesFor(99), 2);
        check.same("41 at most 3", house.framesFor(3), 3);
        check.same("41 at most 2", house.framesFor(2), 17);
        for (int i = 0; i < 50; i++) {
            house.read(0, i % 3);
        }
        check.same("41 no more than a hundred", house.framesFor(100), 1);
    }

    private static void shareIs(Check check, String what, Writeback house, int hits, int all) {
        check.same("42 " + what, house.getHitShare(), (float) hits / (float) all);
        check.same("43 " + what, house.getHitBits(), Float.floatToIntBits((float) hits / (float) all));
    }

    private static void shareAtTheEnds(Check check) {
        Writeback none = house(0);
        check.refused("42 no access", ARITHMETIC, none, none::getHitShare);
        check.refused("43 no access", ARITHMETIC, none, none::getHitBits);
        none.write(0, 0, 1);
        shareIs(check, "one miss", none, 0, 1);
        check.same("43 bits of 0", none.getHitBits(), 0);
        none.read(0, 0);
        shareIs(check, "a half", none, 1, 2);
        for (int misses : new int[] {1, 2, 3, 7, 15, 31, 63, 127, 255, 400, 508}) {
            Writeback house = houseOf(1, 0);
            for (int i = 0; i < misses; i++) {
                house.read(0, i % 2);
            }
            shareIs(check, "misses alone, " + misses, house, 0, misses);
            house.read(0, (misses - 1) % 2);
            shareIs(check, "one hit, misses " + misses, house, 1, misses + 1);
        }
        for (int hits = 1; hits <= 508; hits += hits < 40 ? 1 : 36) {
            Writeback house = house(0);
            for (int i = 0; i <= hits; i++) {
                house.read(0, 0);
            }
            shareIs(check, "one miss, hits " + hits, house, hits, hits + 1);
        }
    }

    private static void shareByPowerFailure(Check check) {
        Writeback house = houseOf(1, 0);
        house.write(0, 0, 1);
        house.failAt(1);
        house.read(0, 1);
        shareIs(check, "a miss in which the power failed", house, 0, 2);
        check.throwing("8 without power", UNSUPPORTED, () -> house.read(0, 0));
        shareIs(check, "not what is refused", house, 0, 2);
        house.powerOn();
        house.read(0, 0);
        house.read(0, 0);
        shareIs(check, "a hit behind it", house, 1, 4);
    }

    private static void meanAtTheEnds(Check check) {
        Writeback house = house(0, 0, 0, 0);
        check.refused("44 no access", ARITHMETIC, house, house::getMeanCost);
        house.write(0, 0, 1);
        check.same("44 an access at no cost", house.getMeanCost(), 0.0);
        house.setTenant(2);
        house.begin();
        house.commit();
        check.same("44 a cost of no access", house.getMeanCost(), 1.0);
        house.setTenant(0);
        house.read(3, 15);
        check.same("44 with all tenants' costs", house.getMeanCost(), 65.0 / 2.0);
        house.read(3, 15);
        check.same("44 of three accesses", house.getMeanCost(), 65.0 / 3.0);
        house.fail();
        check.same("44 without power", house.getMeanCost(), 65.0 / 3.0);
    }

    /** The sum of a row behind 7. */
    private static long sumOf(long... row) {
        long sum = 7;
        for (long number : row) {
            sum = 31 * sum + number;
        }
        return sum;
    }

    private static void checksumAtTheEnds(Check check) {
        long[] row = new long[128 + 8 + 8];
        Arrays.fill(row, 128, 136, -1);
        check.same("45 a new object", new Writeback().checksum(), sumOf(row));
        for (int frames = 1; frames <= 16; frames++) {
            Writeback house = houseOf(frames);
            long[] less = new long[128 + frames + 8];
            Arrays.fill(less, 128, 128 + frames, -1);
            check.same("45 empty frames, " + frames, house.checksum(), sumOf(less));
            house.fail();
            check.same("45 without power, " + frames, house.checksum(), sumOf(less));
        }
    }

    private static void checksumInItsOrder(Check check) {
        Writeback house = houseOf(2, 0, 0, 0, 0, 1, 1, 1, 1);
        house.setLimit(1);
        house.write(0, 0, 9999);
        house.write(3, 15, 5);
        house.setTenant(1);
        house.write(4, 0, 6);
        house.write(7, 15, 7);
        house.read(7, 15);
        house.damage(4, 1, 8);
        house.begin();
        house.write(3, 1, 9);
        house.setTenant(2);
        house.commit();
        long[] row = new long[128 + 2 + 8];
        row[0] = 9999;
        row[63] = 5;
        row[64] = 6;
        row[65] = 8;
        // The page of the place 0 was evicted for that of 64, which was flushed by a wait and evicted for that of 49.
        row[128] = 9;
        row[129] = 7;
        row[130] = house.countHits();
        row[131] = house.countMisses();
        row[132] = house.countWaits();
        row[133] = 63;
        row[134] = 1;
        row[135] = 1;
        row[136] = 64 + 1;
        row[137] = 1;
        check.same("33 one hit", row[130], 1);
        check.same("34 five misses", row[131], 5);
        check.same("35 three waits", row[132], 3);
        check.same("39 bills", house.getBill(0) + " " + house.getBill(1) + " " + house.getBill(2), "1 65 1");
        check.same("45 all of it", house.checksum(), sumOf(row));
        house.fail();
        row[128] = -1;
        row[129] = -1;
        check.same("45 without pages", house.checksum(), sumOf(row));
        house.powerOn();
        row[49] = 9;
        row[133] = 49;
        row[134] = 0;
        row[137] = 1 + 15;
        check.same("45 with the log gone through", house.checksum(), sumOf(row));
    }

    private static void soundAtTheEnds(Check check) {
        check.same("46 a new object", new Writeback().isSound(), true);
        for (int frames = 1; frames <= 16; frames++) {
            Writeback house = houseOf(frames, 0, 1);
            house.setPolicy('c');
            for (int i = 0; i < 40; i++) {
                house.read(i % 2, i * 7 % 16);
                house.write(i % 2, i * 5 % 16, i);
                if (i % 9 == 0) {
                    house.damage(0, i % 16, 5000 + i);
                    house.damage(0, i % 16, house.onPlace(0, i % 16) - 1);
                    house.write(0, i % 16, 3);
                    house.sync(0);
                }
                check.same("46 " + i + " with frames " + frames, house.isSound(), true);
            }
            house.begin();
            house.write(1, 3, 4);
            check.same("46 in a transaction, " + frames, house.isSound(), true);
            house.damage(1, 3, 4321);
            house.abort();
            check.same("46 behind an abort, " + frames, house.isSound(), true);
            house.fail();
            check.same("46 without power, " + frames, house.isSound(), true);
        }
    }

    private static void lastCalls(Check check) {
        Writeback house = houseOf(16, 0, 1);
        house.setLimit(16);
        int calls = 4;
        while (calls < 505) {
            house.begin();
            house.write(calls % 2, calls % 16, calls);
            house.commit();
            calls += 3;
        }
        check.same("15 call 506 of 512", house.begin(), 168);
        check.same("18 call 507", house.countWritten(), 0);
        check.same("17 call 508", house.abort(), 0);
        check.same("34 call 509", house.countMisses(), 16);
        check.same("33 call 510", house.countHits(), 167 - 16);
        check.same("43 call 511", house.getHitBits(), Float.floatToIntBits(151.0f / 167.0f));
        check.same("46 call 512", house.isSound(), true);
    }
}
