/** Promise 5: merge. */
final class MergeTest {
    public static void main(String[] args) {
        Check.sentence("Up to so many MOVES", MergeTest::upToSoMany);
        Check.sentence("how many", MergeTest::howMany);
        Check.sentence("as many moves as a disk can have", MergeTest::mostMoves);
        Check.sentence("DOWN", MergeTest::whileDown);
        Check.sentence("OUTSIDE (steps 0 .. 100)", MergeTest::stepsOutside);
        Check.sentence("STATE (rows wait)", MergeTest::rowsWait);
        Check.sentence("OUTSIDE stands before STATE", MergeTest::outsideWhileRowsWait);
        Check.sentence("LOST", MergeTest::lost);
        Check.end();
    }

    /** Ten rows in sectors 2 .. 11, of which 1 .. 4 are dropped: sectors 6 .. 11 are in use. */
    private static Disk gappy() {
        Disk disk = Disks.withRows(16, 10);
        Check.due("drop", disk.drop(5), 4);
        return disk;
    }

    private static void upToSoMany() {
        int[][] sectors = {
            {6, 7, 8, 9, 10, 11}, {6, 7, 8, 9, 10, 2}, {6, 7, 8, 9, 3, 2}, {6, 7, 8, 4, 3, 2}, {6, 7, 5, 4, 3, 2}
        };
        int[] steps = {0, 1, 2, 3, 4, 5, 6, 99, 100};
        for (int many : steps) {
            Disk disk = gappy();
            int moves = Math.min(many, 4);
            Check.due("merge(" + many + ")", disk.merge(many), moves);
            Disks.dueSectorsOfRows("merge(" + many + ")", disk, sectors[moves]);
            Disks.dueNumbers("merge(" + many + ")", disk, 5, 6, 7, 8, 9, 10);
            Check.due("writes, merge(" + many + ")", disk.writes(), 12 + 2 * moves);
            Check.due("generation, merge(" + many + ")", disk.count(2), 2 + moves);
            Check.due("greatest, merge(" + many + ")", disk.count(3), 10);
            for (int k = 0; k < 6; k++) {
                Check.due("byte of row " + k, disk.at(k, 0), 104 + k);
            }
        }
    }

    private static void howMany() {
        Disk disk = gappy();
        Check.due("merge(0)", disk.merge(0), 0);
        Check.due("merge(1)", disk.merge(1), 1);
        Check.due("merge(2)", disk.merge(2), 2);
        Check.due("merge(2)", disk.merge(2), 1);
        Check.due("merge(2)", disk.merge(2), 0);
        Check.due("merge(100)", disk.merge(100), 0);
        Check.due("writes", disk.writes(), 20);
        Check.due("restart", Disks.restart(disk), 6);
        Disks.dueSectorsOfRows("over a loss", disk, 6, 7, 5, 4, 3, 2);
    }

    private static void mostMoves() {
        Disk disk = new Disk(64);
        for (int number = 1; number <= 50; number++) {
            disk.end(0, number > 25);
        }
        disk.sync();
        Check.due("drop", disk.drop(100), 25);
        Check.due("merge(100)", disk.merge(100), 25);
        int[] sectors = new int[25];
        for (int k = 0; k < 25; k++) {
            sectors[k] = 26 - k;
        }
        Disks.dueSectorsOfRows("25 rows", disk, sectors);
        Check.due("writes", disk.writes(), 51 + 1 + 50);
    }

    private static void whileDown() {
        Disk disk = Disks.takeDown(gappy());
        int[] steps = {0, 1, 100, -1, 101};
        for (int many : steps) {
            Check.due("merge(" + many + ")", disk.merge(many), PostDisk.DOWN);
        }
        disk.start();
        Check.due("merge then", disk.merge(1), 1);
    }

    private static void stepsOutside() {
        Disk disk = gappy();
        int[] outside = {-1, -2, 101, 102, 356, Integer.MIN_VALUE, Integer.MAX_VALUE};
        for (int steps : outside) {
            Check.due("merge(" + steps + ")", disk.merge(steps), PostDisk.OUTSIDE);
        }
        Check.due("writes", disk.writes(), 12);
        Check.due("merge(0)", disk.merge(0), 0);
        Check.due("merge(100)", disk.merge(100), 4);
    }

    private static void rowsWait() {
        Disk disk = gappy();
        disk.add(1);
        Check.due("a row that is put together does not wait", disk.merge(1), 1);
        disk.end(0, false);
        Check.due("merge(1)", disk.merge(1), PostDisk.STATE);
        Check.due("merge(0)", disk.merge(0), PostDisk.STATE);
        Check.due("merge(100)", disk.merge(100), PostDisk.STATE);
        Check.due("writes", disk.writes(), 14);
        Check.due("sync", disk.sync(), 1);
        Check.due("merge behind a sync", disk.merge(100), 2);
    }

    private static void outsideWhileRowsWait() {
        Disk disk = gappy();
        disk.end(0, false);
        Check.due("merge(-1)", disk.merge(-1), PostDisk.OUTSIDE);
        Check.due("merge(101)", disk.merge(101), PostDisk.OUTSIDE);
    }

    private static void lost() {
        for (int n = 0; n < 8; n++) {
            Disk disk = gappy();
            disk.cut(n, 40);
            Check.due("merge, cut at " + n, disk.merge(100), PostDisk.LOST);
            Check.due("writes, cut at " + n, disk.writes(), 13 + n);
            Check.due("start, cut at " + n, disk.start(), 6);
            Check.due("wrong, cut at " + n, disk.wrong(0), 0);
            Check.due("row 5, cut at " + n, disk.row(5, 4), n < 2 ? 11 : 2);
            Check.due("generation, cut at " + n, disk.count(2), 2 + n / 2);
            Check.due("moves left, cut at " + n, disk.merge(100), 4 - n / 2);
        }
        Disk disk = gappy();
        disk.cut(8, 40);
        Check.due("power goes behind the last write", disk.merge(100), 4);
        disk = gappy();
        disk.cut(2, 40);
        Check.due("power goes behind the last step", disk.merge(1), 1);
    }
}
