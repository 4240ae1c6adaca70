/** Terms: rows that wait, a sync, and room. */
final class TermsSyncTest {
    public static void main(String[] args) {
        Check.sentence("ROWS THAT WAIT were ended, and are not acknowledged", TermsSyncTest::rowsThatWait);
        Check.sentence("A SYNC writes each of them, in order", TermsSyncTest::inOrder);
        Check.sentence("into the least sector from 2 on", TermsSyncTest::fromTwoOn);
        Check.sentence("that is in no row of the head that counts", TermsSyncTest::inNoRow);
        Check.sentence("and was not taken in this sync", TermsSyncTest::notTaken);
        Check.sentence("then the head with them behind those that were kept", TermsSyncTest::headBehind);
        Check.sentence("then they are acknowledged", TermsSyncTest::acknowledged);
        Check.sentence("ROOM for a row that is no event: kept and wait, and 4 more, below both S - 2 and 50",
                TermsSyncTest::roomForRows);
        Check.sentence("for an event while those that are kept and wait are", TermsSyncTest::roomForEvents);
        Check.sentence("how many rows are kept and wait", TermsSyncTest::keptAndWait);
        Check.end();
    }

    private static void rowsThatWait() {
        Disk disk = new Disk(16);
        Check.due("none at first", disk.count(1), 0);
        disk.add(1);
        Check.due("one that is put together does not wait", disk.count(1), 0);
        disk.end(0, false);
        Check.due("it waits", disk.count(1), 1);
        Check.due("it is not kept", disk.count(0), 0);
        Check.due("its number is not acknowledged", disk.count(3), 0);
        Check.due("it is no kept row", disk.row(0, 4), PostDisk.NONE);
        Check.due("nothing is written", disk.writes(), 0);
        Disks.dueSector("its sector", disk, 2, new int[64]);
        disk.sync();
        Check.due("none behind a sync", disk.count(1), 0);
    }

    private static void inOrder() {
        for (int n = 0; n < 3; n++) {
            Disk disk = new Disk(16);
            for (int i = 0; i < 3; i++) {
                Disks.end(disk, i, false, 50 + i);
            }
            disk.cut(n, 0);
            disk.sync();
            for (int i = 0; i < 3; i++) {
                int[] due = i < n ? Disks.row(1 + i, 1 + i, 50 + i) : new int[64];
                Disks.dueSector("cut at " + n, disk, 2 + i, due);
            }
            Check.due("no head, cut at " + n, disk.octet(1, 0), 0);
        }
    }

    private static void fromTwoOn() {
        Disk disk = new Disk(16);
        disk.end(0, false);
        disk.sync();
        Check.due("the first is 2", disk.row(0, 4), 2);
        int[] sizes = {16, 17, 51, 52, 53, 64};
        for (int sectors : sizes) {
            int most = Disks.mostRows(sectors);
            Disk full = Disks.withEvents(sectors, most);
            Disks.dueSectorsOfRows("S " + sectors, full, Disks.upFrom(2, most));
        }
    }

    private static void inNoRow() {
        Disk disk = new Disk(20);
        for (int i = 0; i < 8; i++) {
            disk.end(0, i % 3 == 1);
        }
        disk.sync();
        Check.due("drop", disk.drop(8), 5);
        disk.poke(3, 3, 1);
        for (int i = 0; i < 6; i++) {
            disk.end(1, false);
        }
        Check.due("sync", disk.sync(), 6);
        Disks.dueSectorsOfRows("those of dropped rows, not of wrong ones", disk, 3, 6, 9, 2, 4, 5, 7, 8, 10);
    }

    private static void notTaken() {
        Disk disk = new Disk(16);
        disk.end(0, false);
        disk.end(0, false);
        disk.end(0, false);
        disk.cut(2, 64 - 1);
        Check.due("a sync that is lost", disk.sync(), PostDisk.LOST);
        disk.start();
        disk.end(1, true);
        disk.end(1, true);
        Check.due("sync", disk.sync(), 2);
        Disks.dueSectorsOfRows("those of the lost one are free", disk, 2, 3);
    }

    private static void headBehind() {
        Disk disk = Disks.withRows(16, 3);
        disk.drop(3);
        disk.end(0, false);
        disk.end(0, false);
        Check.due("sync", disk.sync(), 2);
        Disks.dueSector("the head", disk, 1, Disks.head(3, 5, 4, 2, 3));
        Check.due("writes", disk.writes(), 4 + 1 + 3);
        Disks.dueNumbers("kept", disk, 3, 4, 5);
    }

    private static void acknowledged() {
        for (int tear = 0; tear < 60; tear++) {
            Disk disk = Disks.withRows(16, 1);
            disk.end(0, false);
            disk.cut(1, tear);
            Check.due("power went at the head, tear " + tear, disk.sync(), PostDisk.LOST);
            Check.due("kept, tear " + tear, disk.start(), 1);
            Check.due("greatest, tear " + tear, disk.count(3), 1);
        }
        Disk disk = Disks.withRows(16, 1);
        disk.end(0, false);
        disk.cut(2, 0);
        Check.due("power stayed", disk.sync(), 1);
        Check.due("greatest", disk.count(3), 2);
        Check.due("kept", disk.count(0), 2);
        disk.cut(0, 0);
        disk.end(0, false);
        disk.sync();
        Check.due("kept over a loss", disk.start(), 2);
    }

    private static void roomForRows() {
        for (int sectors = 16; sectors <= 64; sectors++) {
            int most = Disks.mostRows(sectors) - 4;
            Disk disk = new Disk(sectors);
            for (int number = 1; number <= most; number++) {
                Check.due("S " + sectors + ", row " + number, disk.end(0, false), number);
            }
            Check.due("S " + sectors + ", one more", disk.end(0, false), PostDisk.ROOM);
            Check.due("S " + sectors + ", sync", disk.sync(), most);
            Check.due("S " + sectors + ", one more then", disk.end(0, false), PostDisk.ROOM);
            Check.due("S " + sectors + ", an event", disk.end(0, true), most + 1);
            Check.due("S " + sectors + ", drop of one", disk.drop(2), 1);
            Check.due("S " + sectors + ", no room yet: an event waits", disk.end(0, false), PostDisk.ROOM);
            Check.due("S " + sectors + ", drop of another", disk.drop(3), 1);
            Check.due("S " + sectors + ", room again", disk.end(0, false), most + 2);
            Check.due("S " + sectors + ", for one", disk.end(0, false), PostDisk.ROOM);
        }
    }

    private static void roomForEvents() {
        for (int sectors = 16; sectors <= 64; sectors++) {
            int most = Disks.mostRows(sectors);
            Disk disk = new Disk(sectors);
            for (int number = 1; number <= most; number++) {
                Check.due("S " + sectors + ", event " + number, disk.end(0, true), number);
            }
            Check.due("S " + sectors + ", one more", disk.end(0, true), PostDisk.ROOM);
            Check.due("S " + sectors + ", a row", disk.end(0, false), PostDisk.ROOM);
            Check.due("S " + sectors + ", sync", disk.sync(), most);
            Check.due("S " + sectors + ", one more then", disk.end(0, true), PostDisk.ROOM);
            Check.due("S " + sectors + ", a row then", disk.end(0, false), PostDisk.ROOM);
        }
    }

    private static void keptAndWait() {
        for (int kept = 0; kept <= 10; kept++) {
            Disk disk = Disks.withRows(16, kept);
            for (int number = kept + 1; number <= 10; number++) {
                Check.due(kept + " kept, row " + number, disk.end(0, false), number);
            }
            Check.due(kept + " kept, row 11", disk.end(0, false), PostDisk.ROOM);
            for (int number = 11; number <= 14; number++) {
                Check.due(kept + " kept, event " + number, disk.end(0, true), number);
            }
            Check.due(kept + " kept, event 15", disk.end(0, true), PostDisk.ROOM);
        }
    }
}
