import java.util.Random;
import java.util.function.IntSupplier;

/** Runs of up to 512 calls, drawn from seeds, on the class and on the model: all answers are the same. */
final class ModelTest {
    private static final int RUNS = 4000;
    private static final int CALLS_IN_A_STEP = 5;
    private static final int CALLS_FOR_A_SECTOR = 64;
    private static final int THREW = Integer.MIN_VALUE;

    private final Random random;
    private final int sectors;
    private final Disk disk;
    private final Model model;
    private final int style;
    private final int callsForSectors;

    private ModelTest(int seed) {
        random = new Random(seed);
        sectors = random.nextInt(4) == 0 ? random.nextInt(80) - 8 : 16 + random.nextInt(12);
        disk = new Disk(sectors);
        model = new Model(sectors);
        style = random.nextInt(5);
        callsForSectors = CALLS_FOR_A_SECTOR * random.nextInt(7);
    }

    public static void main(String[] args) {
        for (int seed = 0; seed < RUNS; seed++) {
            new ModelTest(seed).run(seed);
        }
        Check.end();
    }

    private void run(int seed) {
        while (disk.callsLeft() >= CALLS_IN_A_STEP + callsForSectors) {
            if (!call("seed " + seed + ", calls left " + disk.callsLeft())) {
                return;
            }
        }
        for (int sector = 0; disk.callsLeft() >= CALLS_FOR_A_SECTOR; sector++) {
            Disks.dueSector("seed " + seed, disk, sector, model.sector(sector));
        }
    }

    /** Answers whether the two were the same. */
    private boolean call(String when) {
        int a = draw();
        int b = draw();
        int pick = random.nextInt(100);
        if (pick < 20) return same(when + " add", () -> disk.add(a), () -> model.add(a));
        if (pick < 45) return end(when);
        if (pick < 53) return same(when + " sync", disk::sync, model::sync);
        if (pick < 57) return merge(when);
        if (pick < 60) return drop(when);
        if (pick < 64) return cut(when);
        if (pick < 69) return same(when + " start", disk::start, model::start);
        if (pick < 74) return same(when + " count", () -> disk.count(a % 7), () -> model.count(a % 7));
        if (pick < 80) return same(when + " row", () -> disk.row(b, a % 7), () -> model.row(b, a % 7));
        if (pick < 86) return same(when + " at", () -> disk.at(b, a % 43), () -> model.at(b, a % 43));
        if (pick < 89) return same(when + " wrong", () -> disk.wrong(a % 4), () -> model.wrong(a % 4));
        if (pick < 92) return style == 4 ? forge(when) : poke(when);
        if (pick < 97) return same(when + " octet", () -> disk.octet(b, a), () -> model.octet(b, a));
        return same(when + " writes", disk::writes, model::writes);
    }

    /** Mostly a small number, at times one far outside. */
    private int draw() {
        int pick = random.nextInt(60);
        return pick == 0 ? random.nextInt() : pick < 4 ? random.nextInt(140) - 20 : random.nextInt(1 + pick);
    }

    private boolean end(String when) {
        int kind = random.nextInt(20) == 0 ? draw() - 5 : random.nextInt(10);
        boolean event = random.nextInt(3) == 0;
        return same(when + " end", () -> disk.end(kind, event), () -> model.end(kind, event));
    }

    private boolean merge(String when) {
        int steps = random.nextInt(2) == 0 ? random.nextInt(5) : random.nextInt(110) - 4;
        return same(when + " merge", () -> disk.merge(steps), () -> model.merge(steps));
    }

    private boolean drop(String when) {
        int before = random.nextInt(10) == 0 ? random.nextInt() : random.nextInt(30) - 20 + model.writes();
        return same(when + " drop", () -> disk.drop(before), () -> model.drop(before));
    }

    private boolean cut(String when) {
        int n = style == 0 ? draw() : random.nextInt(8) - 1;
        int tear = random.nextInt(3) == 0 ? 63 : random.nextInt(70) - 2;
        return same(when + " cut", () -> disk.cut(n, tear), () -> model.cut(n, tear));
    }

    private boolean poke(String when) {
        int sector = style == 1 ? random.nextInt(3) : random.nextInt(66) - 1;
        int i = random.nextInt(66) - 1;
        int mask = random.nextInt(3) == 0 ? random.nextInt() : 1 << random.nextInt(9);
        if (style == 2) {
            return true;
        }
        return poke(when, sector, i, mask);
    }

    /** Alters one byte of a head or of a row, and the sum with it, so that the sector is whole. */
    private boolean forge(String when) {
        int sector = random.nextInt(2 + random.nextInt(6));
        int i = random.nextInt(random.nextInt(3) == 0 ? 14 : 6);
        int mask = random.nextInt(3) == 0 ? random.nextInt() : 1 << random.nextInt(8);
        boolean same = poke(when, sector, i, mask);
        int sum = Disks.sum(model.sector(sector));
        for (int j = 0; j < 4; j++) {
            int due = sum >>> (24 - 8 * j);
            same = same && poke(when, sector, 60 + j, due ^ model.sector(sector)[60 + j]);
        }
        return same;
    }

    private boolean poke(String when, int sector, int i, int mask) {
        return same(when + " poke", () -> disk.poke(sector, i, mask), () -> model.poke(sector, i, mask));
    }

    private boolean same(String call, IntSupplier got, IntSupplier want) {
        int due = answer(want);
        int answer = answer(got);
        Check.due(call, answer, due);
        return answer == due;
    }

    private static int answer(IntSupplier call) {
        try {
            return call.getAsInt();
        } catch (RuntimeException e) {
            return Check.isOwn(e) ? THREW : THREW + 1;
        }
    }
}
