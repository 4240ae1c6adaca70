/** Promise 7: cut. */
final class CutTest {
    public static void main(String[] args) {
        Check.sentence("Power goes at the n-th write from now on", CutTest::atTheNth);
        Check.sentence("(0 the next one)", CutTest::nextOne);
        Check.sentence("n up to 1000, counted over calls", CutTest::atTheThousandth);
        Check.sentence("behind so many new bytes", CutTest::behindNewBytes);
        Check.sentence("NONE: it stays", CutTest::noneStays);
        Check.sentence("What was set before does not count", CutTest::lastCountsAlone);
        Check.sentence("it goes once", CutTest::goesOnce);
        Check.sentence(": 1", CutTest::answersOne);
        Check.sentence("DOWN", CutTest::whileDown);
        Check.sentence("OUTSIDE (n -1 .. 1000, tear 0 .. 63)", CutTest::outside);
        Check.sentence("groups that are acknowledged together", CutTest::groups);
        Check.end();
    }

    private static void atTheNth() {
        for (int n = 0; n < 12; n++) {
            Disk disk = new Disk(64);
            disk.cut(n, 0);
            for (int i = 0; i < 10; i++) {
                disk.end(0, false);
            }
            Check.due("sync, cut at " + n, disk.sync(), n < 11 ? PostDisk.LOST : 10);
            Check.due("writes, cut at " + n, disk.writes(), Math.min(n + 1, 11));
            for (int w = 0; w < 10; w++) {
                Check.due("row " + w + ", cut at " + n, disk.octet(2 + w, 0), w < n ? 1 : 0);
            }
        }
    }

    private static void nextOne() {
        Disk disk = Disks.withRows(16, 3);
        disk.cut(0, 0);
        disk.poke(9, 9, 9);
        disk.octet(9, 9);
        disk.sync();
        disk.merge(9);
        disk.drop(1);
        Check.due("calls that write nothing", disk.count(0), 3);
        Check.due("the next write", disk.drop(2), PostDisk.LOST);
        Disk other = Disks.withRows(16, 3);
        other.cut(1, 0);
        Check.due("1: not at the next", other.drop(2), 1);
        Check.due("but at the one behind it", other.drop(3), PostDisk.LOST);
    }

    /** LimitTest's rounds: 22 rows behind those of the round before, which are dropped, and 22 moves. */
    private static int writesUntilLoss(Disk disk) {
        for (int first = 1; disk.callsLeft() > 30; first += 22) {
            for (int i = 0; i < 22; i++) {
                disk.end(0, false);
            }
            if (disk.sync() < 0 || disk.drop(first) < 0 || disk.merge(100) < 0) {
                return disk.writes();
            }
        }
        return PostDisk.NONE;
    }

    private static void atTheThousandth() {
        int[] far = {255, 256, 511, 512, 998, 999, 1000};
        for (int n : far) {
            Disk disk = new Disk(64);
            Check.due("cut(" + n + ", 7)", disk.cut(n, 7), 1);
            Check.due("writes, cut at " + n, writesUntilLoss(disk), n + 1);
        }
        Check.due("without a cut", writesUntilLoss(new Disk(64)), PostDisk.NONE);
    }

    private static void behindNewBytes() {
        for (int tear = 0; tear < 64; tear++) {
            Disk disk = Disks.withRows(16, 2);
            int[] torn = new int[64];
            System.arraycopy(Disks.head(2, 2, 3), 0, torn, 0, tear);
            disk.cut(0, tear);
            Check.due("drop, torn at " + tear, disk.drop(2), PostDisk.LOST);
            Disks.dueSector("a head torn at " + tear, disk, 0, torn);
        }
    }

    private static void noneStays() {
        Disk disk = Disks.withRows(16, 1);
        disk.cut(0, 0);
        Check.due("cut(NONE, 0)", disk.cut(PostDisk.NONE, 0), 1);
        Check.due("drop", disk.drop(2), 1);
        Disk never = new Disk(64);
        Check.due("cut(NONE, 63)", never.cut(PostDisk.NONE, 63), 1);
        Check.due("hundreds of writes", writesUntilLoss(never), PostDisk.NONE);
    }

    private static void lastCountsAlone() {
        Disk later = Disks.withRows(16, 3);
        later.cut(0, 1);
        later.cut(1, 10);
        Check.due("set later: first drop", later.drop(2), 1);
        Check.due("second drop", later.drop(3), PostDisk.LOST);
        Disk sooner = Disks.withRows(16, 3);
        sooner.cut(1, 1);
        sooner.cut(0, 10);
        Check.due("set sooner: first drop", sooner.drop(2), PostDisk.LOST);
        Check.due("its tenth byte is new", sooner.octet(0, 9), 2);
        Check.due("its eleventh is not", sooner.octet(0, 10), 0);
        Disk half = Disks.withRows(16, 4);
        half.cut(1, 1);
        Check.due("before: first drop", half.drop(2), 1);
        half.cut(1, 1);
        Check.due("counted anew: second drop", half.drop(3), 1);
        Check.due("third drop", half.drop(4), PostDisk.LOST);
    }

    private static void goesOnce() {
        Disk disk = Disks.withRows(16, 3);
        disk.cut(0, 0);
        Check.due("drop", disk.drop(2), PostDisk.LOST);
        Check.due("start", disk.start(), 3);
        Check.due("drop after a start", disk.drop(2), 1);
        Check.due("and again", disk.drop(3), 1);
    }

    private static void answersOne() {
        int[][] inside = {{-1, 0}, {-1, 63}, {0, 0}, {0, 63}, {1, 1}, {999, 62}, {1000, 0}, {1000, 63}};
        Disk disk = new Disk(16);
        for (int[] pair : inside) {
            Check.due("cut(" + pair[0] + ", " + pair[1] + ")", disk.cut(pair[0], pair[1]), 1);
        }
    }

    private static void whileDown() {
        Disk disk = Disks.takeDown(Disks.withRows(16, 2));
        Check.due("cut(0, 0)", disk.cut(0, 0), PostDisk.DOWN);
        Check.due("cut(-1, 0)", disk.cut(-1, 0), PostDisk.DOWN);
        Check.due("cut(-2, 64)", disk.cut(-2, 64), PostDisk.DOWN);
        disk.cut(0, 0);
        disk.start();
        Check.due("it set nothing", disk.drop(2), 1);
    }

    private static void outside() {
        Disk disk = Disks.withRows(16, 1);
        disk.cut(0, 10);
        int[][] outside = {
            {-2, 0}, {1001, 0}, {Integer.MIN_VALUE, 0}, {Integer.MAX_VALUE, 0}, {0, -1}, {0, 64}, {1000, 64},
            {0, Integer.MIN_VALUE}, {0, Integer.MAX_VALUE}, {-1, 64}, {-1, -1}, {-2, -1}, {1001, 64}
        };
        for (int[] pair : outside) {
            Check.due("cut(" + pair[0] + ", " + pair[1] + ")", disk.cut(pair[0], pair[1]), PostDisk.OUTSIDE);
        }
        Check.due("what was set before counts still", disk.drop(9), PostDisk.LOST);
        Check.due("with its bytes", disk.octet(0, 8), 1);
        Check.due("and no more", disk.octet(0, 60), 0);
    }

    /** At every write and every byte: all rows of a group are there, or none, and none is wrong. */
    private static void groups() {
        for (int n = 0; n < 4; n++) {
            for (int tear = 0; tear < 64; tear++) {
                Disk disk = Disks.withRows(16, 4);
                disk.drop(3);
                for (int i = 0; i < 3; i++) {
                    Disks.end(disk, 7, true, 10 + i, tear);
                }
                disk.cut(n, tear);
                Check.due("sync", disk.sync(), PostDisk.LOST);
                // the last byte of the torn sum may be the same as the new one
                dueAllOrNone(disk, "cut(" + n + ", " + tear + ")", n == 3 && tear == 63);
            }
        }
    }

    private static void dueAllOrNone(Disk disk, String cut, boolean mayBeWhole) {
        int kept = disk.start();
        boolean all = mayBeWhole && kept == 5;
        Check.due("start, " + cut, kept, all ? 5 : 2);
        Check.due("wrong(0), " + cut, disk.wrong(0), 0);
        Check.due("number, " + cut, disk.row(0, 0), 3);
        Check.due("next number, " + cut, disk.end(0, true), all ? 8 : 5);
    }
}
