import java.util.ArrayList;
import java.util.List;

/** Long rows of calls, drawn by a fixed rule, on the class and on the model: each answer is the same. */
public final class ModelTest {
    private static final int RUNS = 1500;
    private static final int CALLS = 512;
    private static final int[] ODD = {-1, Integer.MIN_VALUE, Integer.MAX_VALUE, 17, 64, 100, 10000, 8, 5};
    private static final char[] POLICIES = {'l', 'f', 'c', 'b', 'x'};

    private final Check check;
    private final Draw draw;
    private final Writeback house = new Writeback();
    private final Model model = new Model();
    private final List<String> calls = new ArrayList<>();
    private int files;
    /** Many frames and few troubles, so that the log grows full. */
    private boolean wide;

    private ModelTest(Check check, int run) {
        this.check = check;
        this.draw = new Draw(run);
    }

    /** Numbers drawn by a rule of our own, the same ones each time. */
    private static final class Draw {
        private long state;

        Draw(int start) {
            state = start * 2654435769L + 12345;
        }

        int below(int bound) {
            state = state * 6364136223846793005L + 1442695040888963407L;
            return (int) ((state >>> 33) % bound);
        }

        boolean oneIn(int n) {
            return below(n) == 0;
        }
    }

    public static void main(String[] args) {
        Check check = new Check("ModelTest");
        int runs = args.length > 0 ? Integer.parseInt(args[0]) : RUNS;
        for (int run = 0; run < runs; run++) {
            new ModelTest(check, run).row();
        }
        check.end();
    }

    private void row() {
        setUp();
        int blocks = wide ? 16 : 3 + draw.below(14);
        int oddity = 8 + draw.below(60);
        boolean allGood = true;
        while (calls.size() < CALLS && allGood) {
            allGood = one(Math.min(16, blocks), oddity);
        }
        check.same("row", allGood, true);
    }

    private void setUp() {
        wide = draw.oneIn(4);
        int count = 1 + draw.below(4);
        for (int i = 0; i < count; i++) {
            int device = draw.below(2);
            same("addFile", () -> house.addFile(device), () -> model.addFile(device), device);
            files++;
        }
        int frames = wide ? 14 + draw.below(3) : 1 + draw.below(draw.oneIn(3) ? 16 : 6);
        same("setFrames", () -> house.setFrames(frames), () -> model.setFrames(frames), frames);
        int limit = wide ? 10 + draw.below(7) : 1 + draw.below(draw.oneIn(3) ? 16 : 4);
        same("setLimit", () -> house.setLimit(limit), () -> model.setLimit(limit), limit);
        int window = draw.below(5);
        same("setWindow", () -> house.setWindow(window), () -> model.setWindow(window), window);
        char policy = POLICIES[draw.below(3)];
        same("setPolicy", () -> house.setPolicy(policy), () -> model.setPolicy(policy), policy);
    }

    private int number(int from, int to, int oddity) {
        if (draw.oneIn(oddity)) {
            return ODD[draw.below(ODD.length)];
        }
        return from + draw.below(to - from + 1);
    }

    private int lastBlock = 0;

    /** Every third block is the one behind the last one, so that rows are read on. */
    private int block(int blocks, int oddity) {
        lastBlock = draw.oneIn(3) ? lastBlock + 1 : number(0, blocks - 1, oddity * 3);
        return lastBlock;
    }

    private boolean one(int blocks, int oddity) {
        int file = number(0, files - 1, oddity * 3);
        int device = number(0, 1, oddity);
        int kind = draw.below(100);
        if (wide && kind >= 65 && kind < 90 && !draw.oneIn(8)) {
            kind = draw.below(65);
        }
        if (!model.hasPower() && draw.oneIn(3)) {
            return same("powerOn", house::powerOn, model::powerOn);
        }
        if (kind < 55) {
            return access(kind, file, block(blocks, oddity), number(0, 4, oddity * 3));
        }
        if (kind < 75) {
            return transaction(kind, file);
        }
        if (kind < 84) {
            return power(kind, file, block(blocks, oddity), device, oddity);
        }
        return kind < 90 ? setting(device, oddity) : look(file, draw.below(16), oddity);
    }

    private boolean access(int kind, int file, int block, int value) {
        if (kind < 24) {
            return same("read", () -> house.read(file, block), () -> model.read(file, block), file, block);
        }
        if (kind < 48) {
            return same("write", () -> house.write(file, block, value), () -> model.write(file, block, value),
                    file, block, value);
        }
        if (kind < 51) {
            return same("pin", () -> house.pin(file, block), () -> model.pin(file, block), file, block);
        }
        return same("unpin", () -> house.unpin(file, block), () -> model.unpin(file, block), file, block);
    }

    private boolean transaction(int kind, int file) {
        switch (kind) {
            case 55, 56, 57, 58, 59:
                return same("begin", house::begin, model::begin);
            case 60, 61, 62, 63, 64:
                return same("commit", house::commit, model::commit);
            case 65, 66:
                return same("abort", house::abort, model::abort);
            case 67:
                return same("checkpoint", house::checkpoint, model::checkpoint);
            case 68, 69:
                return same("sync", () -> house.sync(file), () -> model.sync(file), file);
            case 70:
                return same("countWritten", house::countWritten, model::countWritten);
            default:
                return same("countLog", house::countLog, model::countLog);
        }
    }

    private boolean power(int kind, int file, int block, int device, int oddity) {
        int n = number(0, 8, oddity);
        int value = number(0, 4, oddity);
        switch (kind) {
            case 75, 76:
                return same("failAt", () -> house.failAt(n), () -> model.failAt(n), n);
            case 77:
                return draw.oneIn(3) ? same("fail", house::fail, model::fail)
                        : same("powerOn", house::powerOn, model::powerOn);
            case 78, 79:
                return same("damage", () -> house.damage(file, block, value), () -> model.damage(file, block, value),
                        file, block, value);
            case 80:
                return same("keepImage", () -> house.keepImage(device), () -> model.keepImage(device), device);
            case 81:
                int image = n % 4;
                return same("layBack", () -> house.layBack(image, device), () -> model.layBack(image, device),
                        image, device);
            default:
                return same("scrub", () -> house.scrub(device), () -> model.scrub(device), device);
        }
    }

    private boolean setting(int device, int oddity) {
        int n = number(1, draw.oneIn(2) ? 16 : 5, oddity);
        char policy = POLICIES[draw.below(5)];
        switch (draw.below(6)) {
            case 0:
                files += draw.oneIn(2) && files < 8 ? 1 : 0;
                return same("addFile", () -> house.addFile(device), () -> model.addFile(device), device);
            case 1:
                return same("setFrames", () -> house.setFrames(n), () -> model.setFrames(n), n);
            case 2:
                return same("setLimit", () -> house.setLimit(n), () -> model.setLimit(n), n);
            case 3:
                return same("setWindow", () -> house.setWindow(n - 1), () -> model.setWindow(n - 1), n - 1);
            case 4:
                return same("setTenant", () -> house.setTenant(n - 1), () -> model.setTenant(n - 1), n - 1);
            default:
                return same("setPolicy", () -> house.setPolicy(policy), () -> model.setPolicy(policy), policy);
        }
    }

    private boolean look(int file, int block, int oddity) {
        int n = number(0, 16, oddity);
        char policy = POLICIES[draw.below(5)];
        switch (draw.below(20)) {
            case 0:
                return same("countPages", house::countPages, model::countPages);
            case 1:
                return same("countDirty", house::countDirty, model::countDirty);
            case 2:
                return same("getArm", house::getArm, model::getArm);
            case 3:
                return same("getWear", () -> house.getWear(n), () -> model.getWear(n), n);
            case 4:
                return same("getBill", () -> house.getBill(n), () -> model.getBill(n), n);
            case 5, 6, 7:
                return same("missesBy", () -> house.missesBy(policy, n), () -> model.missesBy(policy, n), policy, n);
            case 8:
                return same("framesFor", () -> house.framesFor(4 * n), () -> model.framesFor(4 * n), 4 * n);
            case 9:
                return same("getHitShare", house::getHitShare, model::getHitShare);
            case 10:
                return same("getHitBits", house::getHitBits, model::getHitBits);
            case 11:
                return same("getMeanCost", house::getMeanCost, model::getMeanCost);
            case 12:
                return same("countAhead", house::countAhead, model::countAhead);
            case 13:
                return same("countUseful", house::countUseful, model::countUseful);
            case 14:
                return same("isSound", house::isSound, model::isSound);
            case 15:
                return same("frameOf", () -> house.frameOf(file, block), () -> model.frameOf(file, block), file, block);
            case 16:
                return same("isDirty", () -> house.isDirty(file, block), () -> model.isDirty(file, block), file, block);
            case 17:
                return same("onPlace", () -> house.onPlace(file, block), () -> model.onPlace(file, block), file, block);
            case 18:
                return same("hasPower", house::hasPower, model::hasPower);
            default:
                return same("countWaits", house::countWaits, model::countWaits);
        }
    }

    private interface Look {
        int at(int file, int block);
    }

    private String pages(Look look) {
        StringBuilder text = new StringBuilder();
        for (int file = 0; file < 8; file++) {
            for (int block = 0; block < 16; block++) {
                int each = file;
                int its = block;
                text.append(answer(() -> look.at(each, its))).append(' ');
            }
        }
        return text.toString();
    }

    private static String answer(Check.Call call) {
        try {
            return String.valueOf(call.make());
        } catch (RuntimeException e) {
            return e.getClass().getSimpleName();
        }
    }

    /** The answer, and behind it the sum over all, the pages of all frames and the counts. */
    private boolean same(String name, Check.Call ours, Check.Call theirs, Object... arguments) {
        StringBuilder text = new StringBuilder(name).append('(');
        for (Object argument : arguments) {
            text.append(text.charAt(text.length() - 1) == '(' ? "" : ", ").append(argument);
        }
        String got = answer(ours);
        String due = answer(theirs);
        calls.add(text.append(") ").append(got).toString());
        if (got.equals(due) && house.checksum() == model.checksum() && house.countDirty() == model.countDirty()
                && house.countUseful() == model.countUseful() && house.hasPower() == model.hasPower()
                && house.isSound() && (calls.size() % 8 != 0 || pages(house::frameOf).equals(pages(model::frameOf)))) {
            return true;
        }
        check.report("due is " + due + " in the last of " + calls);
        return false;
    }
}
