/** Promise 5: merge. */
final class MergeTest {
    public static void main(String[] args) {
        movesTheLastToTheLeast();
        stepByStep();
        firstRowIsLastBySector();
        stepsOutside();
        refusals();
        movesWrongRowsAsTheyAre();
        loss();
        Check.end();
    }

    /** Ten rows in sectors 2 .. 11, of which 1 .. 4 are dropped: sectors 6 .. 11 are in use. */
    private static PostDisk gappy() {
        PostDisk disk = Disks.withRows(16, 10);
        Check.due("drop", disk.drop(5), 4);
        return disk;
    }

    private static void movesTheLastToTheLeast() {
        PostDisk disk = gappy();
        Check.due("merge(100)", disk.merge(100), 4);
        int[] sectors = {6, 7, 5, 4, 3, 2};
        for (int k = 0; k < 6; k++) {
            Check.due("sector of row " + k, disk.row(k, 4), sectors[k]);
            Check.due("number of row " + k, disk.row(k, 0), 5 + k);
            Check.due("byte of row " + k, disk.at(k, 0), 104 + k);
        }
        Check.due("writes", disk.writes(), 11 + 1 + 8);
        Check.due("generation", disk.count(2), 6);
        Check.due("greatest", disk.count(3), 10);
        Disks.dueSector("head", disk, 0, Disks.head(6, 10, sectors));
        Disks.dueSector("head before", disk, 1, Disks.head(5, 10, 6, 7, 8, 4, 3, 2));
        Disks.dueSector("moved row", disk, 2, Disks.row(10, 10, 109));
        Disks.dueSector("where it was", disk, 11, Disks.row(10, 10, 109));
        Check.due("merge again", disk.merge(100), 0);
        Check.due("writes then", disk.writes(), 20);
        Check.due("restart", Disks.restart(disk), 6);
        Check.due("sector after a restart", disk.row(5, 4), 2);
    }

    private static void stepByStep() {
        PostDisk disk = gappy();
        Check.due("merge(0)", disk.merge(0), 0);
        Check.due("writes", disk.writes(), 12);
        Check.due("merge(1)", disk.merge(1), 1);
        Check.due("row 5 moved", disk.row(5, 4), 2);
        Check.due("row 4 did not", disk.row(4, 4), 10);
        Check.due("merge(2)", disk.merge(2), 2);
        Check.due("merge(2)", disk.merge(2), 1);
        Check.due("merge(2)", disk.merge(2), 0);
    }

    private static void firstRowIsLastBySector() {
        PostDisk disk = Disks.withRows(16, 3);
        disk.drop(3);
        Check.due("merge of one row", disk.merge(100), 1);
        Check.due("its sector", disk.row(0, 4), 2);
        disk = new PostDisk(16);
        disk.end(0, false);
        disk.end(0, false);
        disk.end(0, true);
        disk.sync();
        disk.drop(9);
        disk.end(0, true);
        disk.sync();
        Check.due("a newer row stands before", disk.row(1, 4), 2);
        Check.due("merge", disk.merge(100), 1);
        Check.due("sector of row 0", disk.row(0, 4), 3);
        Check.due("sector of row 1", disk.row(1, 4), 2);
    }

    private static void stepsOutside() {
        PostDisk disk = gappy();
        for (int steps : Disks.FAR) {
            Check.due("merge(" + steps + ")", disk.merge(steps), PostDisk.OUTSIDE);
        }
        Check.due("merge(101)", disk.merge(101), PostDisk.OUTSIDE);
        Check.due("writes", disk.writes(), 12);
        Check.due("merge(100)", disk.merge(100), 4);
    }

    private static void refusals() {
        PostDisk disk = gappy();
        disk.add(1);
        disk.end(0, false);
        Check.due("merge while rows wait", disk.merge(1), PostDisk.STATE);
        Check.due("merge(0) while rows wait", disk.merge(0), PostDisk.STATE);
        Check.due("merge(101) while rows wait", disk.merge(101), PostDisk.OUTSIDE);
        Check.due("writes", disk.writes(), 12);
        Disks.takeDown(disk);
        Check.due("merge while down", disk.merge(1), PostDisk.DOWN);
        Check.due("merge(-1) while down", disk.merge(-1), PostDisk.DOWN);
        disk.start();
        disk.add(1);
        Check.due("a row that is put together does not wait", disk.merge(1), 1);
    }

    private static void movesWrongRowsAsTheyAre() {
        PostDisk disk = gappy();
        disk.poke(11, 20, 77);
        disk.poke(11, 61, 1);
        int[] altered = Disks.row(10, 10, 109);
        altered[20] = 77;
        altered[61] ^= 1;
        Check.due("merge(1)", disk.merge(1), 1);
        Disks.dueSector("a wrong row", disk, 2, altered);
        Check.due("which is wrong", disk.wrong(1), 5);
    }

    private static void loss() {
        int[] kept = {5, 5, 4, 4, 3, 3, 2, 2};
        for (int n = 0; n < 8; n++) {
            PostDisk disk = gappy();
            disk.cut(n, 40);
            Check.due("merge, cut at " + n, disk.merge(100), PostDisk.LOST);
            Check.due("writes, cut at " + n, disk.writes(), 13 + n);
            Check.due("start, cut at " + n, disk.start(), 6);
            Check.due("wrong, cut at " + n, disk.wrong(0), 0);
            Check.due("row 5, cut at " + n, disk.row(5, 4), n < 2 ? 11 : 2);
            Check.due("generation, cut at " + n, disk.count(2), 2 + n / 2);
            Check.due("moves left, cut at " + n, disk.merge(100), kept[n] - 1);
        }
        PostDisk disk = gappy();
        disk.cut(8, 40);
        Check.due("merge before the cut", disk.merge(100), 4);
    }
}
