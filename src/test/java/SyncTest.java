/** Promise 4: sync, and the bytes that it writes. */
final class SyncTest {
    public static void main(String[] args) {
        writesRowsThenHead();
        headsInTurn();
        takesTheLeastFreeSectors();
        fiftyRows();
        nothingToDo();
        loss();
        headIsHeldInMemory();
        Check.end();
    }

    private static void writesRowsThenHead() {
        PostDisk disk = new PostDisk(16);
        Disks.end(disk, 3, false, 1, 2, 255);
        Disks.end(disk, 9, true);
        Disks.end(disk, 0, true, new int[40]);
        Check.due("sync", disk.sync(), 3);
        Disks.dueSector("row 1", disk, 2, Disks.row(4, 1, 1, 2, 255));
        Disks.dueSector("row 2", disk, 3, Disks.row(26, 2));
        Disks.dueSector("row 3", disk, 4, Disks.row(17, 3, new int[40]));
        Disks.dueSector("head", disk, 1, Disks.head(1, 3, 2, 3, 4));
        Disks.dueSector("no head yet", disk, 0, new int[64]);
        Check.due("writes", disk.writes(), 4);
        Check.due("kept", disk.count(0), 3);
        Check.due("waiting", disk.count(1), 0);
        Check.due("generation", disk.count(2), 1);
        Check.due("greatest", disk.count(3), 3);
        Check.due("octet of the sum", disk.octet(1, 60), Disks.head(1, 3, 2, 3, 4)[60]);
    }

    private static void headsInTurn() {
        PostDisk disk = Disks.withRows(16, 1);
        Disks.end(disk, 1, false, 5);
        Check.due("second sync", disk.sync(), 1);
        Disks.dueSector("second head", disk, 0, Disks.head(2, 2, 2, 3));
        Disks.dueSector("first head stays", disk, 1, Disks.head(1, 1, 2));
        disk.end(2, true);
        Check.due("third sync", disk.sync(), 1);
        Disks.dueSector("third head", disk, 1, Disks.head(3, 3, 2, 3, 4));
        Disks.dueSector("second head stays", disk, 0, Disks.head(2, 2, 2, 3));
        Disks.dueSector("an empty row", disk, 4, Disks.row(19, 3));
    }

    private static void takesTheLeastFreeSectors() {
        PostDisk disk = new PostDisk(20);
        for (int i = 0; i < 8; i++) {
            disk.end(0, i % 3 == 1);
        }
        disk.sync();
        Check.due("drop", disk.drop(8), 5);
        for (int i = 0; i < 5; i++) {
            disk.end(1, false);
        }
        Check.due("sync", disk.sync(), 5);
        int[] sectors = {3, 6, 9, 2, 4, 5, 7, 8};
        int[] numbers = {2, 5, 8, 9, 10, 11, 12, 13};
        Check.due("kept", disk.count(0), 8);
        for (int k = 0; k < 8; k++) {
            Check.due("sector of row " + k, disk.row(k, 4), sectors[k]);
            Check.due("number of row " + k, disk.row(k, 0), numbers[k]);
        }
        Disks.dueSector("head", disk, 1, Disks.head(3, 13, sectors));
    }

    private static void fiftyRows() {
        PostDisk disk = new PostDisk(64);
        int[] sectors = new int[50];
        for (int i = 0; i < 50; i++) {
            disk.end(i % 10, true);
            sectors[i] = 2 + i;
        }
        Check.due("sync of fifty", disk.sync(), 50);
        Disks.dueSector("a full head", disk, 1, Disks.head(1, 50, sectors));
        Check.due("restart", restartFull(disk), 50);
    }

    /** A full disk takes no row more, so a drop of a row written by hand takes it down. */
    private static int restartFull(PostDisk disk) {
        Disks.write(disk, 2, Disks.row(1, 1));
        disk.cut(0, 0);
        Check.due("drop", disk.drop(2), PostDisk.LOST);
        return disk.start();
    }

    private static void nothingToDo() {
        PostDisk disk = Disks.withRows(16, 2);
        disk.cut(0, 5);
        disk.add(1);
        Check.due("sync with none that waits", disk.sync(), 0);
        Check.due("writes", disk.writes(), 3);
        Check.due("generation", disk.count(2), 1);
        Check.due("still up", disk.count(0), 2);
    }

    private static void loss() {
        for (int n = 0; n <= 3; n++) {
            PostDisk disk = Disks.withRows(16, 2);
            disk.end(1, false);
            disk.end(2, false);
            disk.cut(n, 33);
            Check.due("sync, cut at " + n, disk.sync(), n < 3 ? PostDisk.LOST : 2);
            Check.due("writes, cut at " + n, disk.writes(), 3 + Math.min(n + 1, 3));
            if (n < 3) {
                Check.due("sync while down", disk.sync(), PostDisk.DOWN);
                Check.due("start, cut at " + n, disk.start(), 2);
                Check.due("none waits", disk.count(1), 0);
                Check.due("sync of nothing", disk.sync(), 0);
                Check.due("generation", disk.count(2), 1);
                Check.due("greatest", disk.count(3), 2);
            }
        }
    }

    private static void headIsHeldInMemory() {
        PostDisk disk = Disks.withRows(16, 3);
        disk.poke(1, 12, 1);
        Check.due("kept with an altered head", disk.count(0), 3);
        Check.due("end", disk.end(4, false), 4);
        Check.due("sync", disk.sync(), 1);
        Disks.dueSector("new head", disk, 0, Disks.head(2, 4, 2, 3, 4, 5));
        Check.due("restart", Disks.restart(disk), 4);
    }
}
