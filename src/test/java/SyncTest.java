/** Promise 4: sync. */
final class SyncTest {
    public static void main(String[] args) {
        Check.sentence("A SYNC: how many rows it acknowledged", SyncTest::howMany);
        Check.sentence("all that it writes", SyncTest::bytesOfASync);
        Check.sentence("(0: nothing is written)", SyncTest::nothingToDo);
        Check.sentence("DOWN", SyncTest::whileDown);
        Check.sentence("LOST (power went)", SyncTest::lost);
        Check.sentence("the head that counts is held, and not read before start()", SyncTest::headIsHeld);
        Check.end();
    }

    private static void howMany() {
        for (int rows = 1; rows <= 50; rows++) {
            Disk disk = new Disk(64);
            for (int i = 0; i < rows; i++) {
                disk.end(0, true);
            }
            Check.due("sync of " + rows, disk.sync(), rows);
            Check.due("sync behind it", disk.sync(), 0);
            Check.due("kept of " + rows, disk.count(0), rows);
            Check.due("greatest of " + rows, disk.count(3), rows);
            Check.due("generation", disk.count(2), 1);
            Check.due("writes of " + rows, disk.writes(), rows + 1);
        }
    }

    private static void bytesOfASync() {
        Disk disk = new Disk(16);
        Disks.end(disk, 3, false, 1, 2, 255);
        Disks.end(disk, 9, true);
        Disks.end(disk, 0, true, new int[40]);
        Check.due("sync", disk.sync(), 3);
        Disks.dueSector("row 1", disk, 2, Disks.row(4, 1, 1, 2, 255));
        Disks.dueSector("row 2", disk, 3, Disks.row(26, 2));
        Disks.dueSector("row 3", disk, 4, Disks.row(17, 3, new int[40]));
        Disks.dueSector("head", disk, 1, Disks.head(1, 3, 2, 3, 4));
        Disks.dueSector("no other head", disk, 0, new int[64]);
    }

    private static void nothingToDo() {
        Disk disk = Disks.withRows(16, 2);
        disk.cut(0, 5);
        disk.add(1);
        Check.due("sync with none that waits", disk.sync(), 0);
        Check.due("writes", disk.writes(), 3);
        Check.due("generation", disk.count(2), 1);
        Check.due("still up", disk.count(0), 2);
        Check.due("the byte is still there", disk.count(4), 1);
        Disks.dueSector("no head", disk, 0, new int[64]);
    }

    private static void whileDown() {
        Disk disk = Disks.takeDown(Disks.withRows(16, 2));
        Check.due("sync", disk.sync(), PostDisk.DOWN);
        Check.due("writes", disk.writes(), 4);
        disk.start();
        Check.due("sync then", disk.sync(), 0);
    }

    private static void lost() {
        for (int n = 0; n <= 4; n++) {
            Disk disk = Disks.withRows(16, 2);
            disk.end(1, false);
            disk.end(2, false);
            disk.cut(n, 33);
            Check.due("sync, cut at " + n, disk.sync(), n < 3 ? PostDisk.LOST : 2);
            Check.due("writes, cut at " + n, disk.writes(), 3 + Math.min(n + 1, 3));
            Check.due("start, cut at " + n, disk.start(), n < 3 ? 2 : PostDisk.STATE);
            Check.due("greatest, cut at " + n, disk.count(3), n < 3 ? 2 : 4);
            Check.due("none waits", disk.count(1), 0);
        }
    }

    private static void headIsHeld() {
        Disk disk = Disks.withRows(16, 3);
        disk.poke(1, 12, 1);
        Check.due("kept with an altered head", disk.count(0), 3);
        Check.due("end", disk.end(4, false), 4);
        Check.due("sync", disk.sync(), 1);
        Disks.dueSector("new head", disk, 0, Disks.head(2, 4, 2, 3, 4, 5));
        Check.due("restart", Disks.restart(disk), 4);
    }
}
