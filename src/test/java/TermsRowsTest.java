/** Terms: rows, their sectors, and their numbers. */
final class TermsRowsTest {
    public static void main(String[] args) {
        Check.sentence("ROWS have a kind 0 .. 9", TermsRowsTest::kinds);
        Check.sentence("are EVENTS or not", TermsRowsTest::eventsOrNot);
        Check.sentence("and 0 .. 40 bytes", TermsRowsTest::lengths);
        Check.sentence("1 more than its kind and 16 more if it is an event", TermsRowsTest::marks);
        Check.sentence("its number in four bytes (highest first)", TermsRowsTest::numberInFourBytes);
        Check.sentence("how many bytes; these", TermsRowsTest::lengthThenBytes);
        Check.sentence("Numbers go up by 1 for each row that is ended, from 1 on", TermsRowsTest::numbersFromOne);
        Check.sentence("a row that is refused has no number", TermsRowsTest::refusedRowsHaveNone);
        Check.sentence("also over a loss of power for rows that were acknowledged", TermsRowsTest::overALoss);
        Check.sentence("1 more than the greatest acknowledged, told in the head", TermsRowsTest::toldInTheHead);
        Check.sentence("numbers of four bytes wrap around", TermsRowsTest::numbersWrap);
        Check.end();
    }

    private static void kinds() {
        for (int kind = 0; kind <= 9; kind++) {
            Disk disk = new Disk(16);
            Check.due("kind " + kind, disk.end(kind, false), 1);
            disk.sync();
            Check.due("kind " + kind + " as kept", disk.row(0, 1), kind);
        }
        Disk disk = new Disk(16);
        Check.due("kind -1", disk.end(-1, false), PostDisk.OUTSIDE);
        Check.due("kind 10", disk.end(10, false), PostDisk.OUTSIDE);
    }

    private static void eventsOrNot() {
        for (int kind = 0; kind <= 9; kind += 9) {
            Disk disk = new Disk(16);
            disk.end(kind, false);
            disk.end(kind, true);
            disk.sync();
            Check.due("no event of kind " + kind, disk.row(0, 2), 0);
            Check.due("an event of kind " + kind, disk.row(1, 2), 1);
            Check.due("kind " + kind + " of no event", disk.row(0, 1), kind);
            Check.due("kind " + kind + " of an event", disk.row(1, 1), kind);
        }
    }

    private static void lengths() {
        for (int length = 0; length <= 40; length++) {
            Disk disk = new Disk(16);
            int last = length - 1;
            int many = length;
            Disks.end(disk, 0, false, Disks.upFrom(1, length));
            disk.sync();
            Check.due("length " + length, disk.row(0, 3), length);
            if (length > 0) {
                Check.due("last byte of " + length, disk.at(0, last), length);
            }
            Check.outOfBounds("the byte behind " + length, () -> disk.at(0, many));
        }
        Disk disk = new Disk(16);
        Disks.end(disk, 0, false, Disks.upFrom(1, 41));
        disk.sync();
        Check.due("a 41st byte does not come to it", disk.row(0, 3), 40);
    }

    private static void marks() {
        for (int kind = 0; kind <= 9; kind++) {
            Disk disk = new Disk(16);
            disk.end(kind, false);
            disk.end(kind, true);
            disk.sync();
            Check.due("first byte of kind " + kind, disk.octet(2, 0), 1 + kind);
            Check.due("first byte of an event of kind " + kind, disk.octet(3, 0), 17 + kind);
        }
    }

    /** A row's number comes from calls alone up to 257, the first that needs two of the bytes. */
    private static void numberInFourBytes() {
        Disk disk = new Disk(64);
        for (int number = 1; number <= 257; number++) {
            if (disk.end(0, false) == PostDisk.ROOM) {
                disk.sync();
                disk.drop(number);
                Check.due("end " + number, disk.end(0, false), number);
            }
        }
        disk.sync();
        int k = disk.count(0) - 2;
        dueNumberBytes("number 256", disk, disk.row(k, 4), 0, 0, 1, 0);
        dueNumberBytes("number 257", disk, disk.row(k + 1, 4), 0, 0, 1, 1);
        Check.due("row(k, 0)", disk.row(k, 0), 256);
        Disk other = Disks.startedWith(16, new int[64], Disks.head(1, 0x01020303));
        other.end(0, false);
        other.sync();
        dueNumberBytes("number 0x01020304", other, 2, 1, 2, 3, 4);
        Check.due("row(0, 0)", other.row(0, 0), 0x01020304);
    }

    private static void dueNumberBytes(String what, Disk disk, int sector, int... due) {
        for (int i = 0; i < 4; i++) {
            Check.due(what + ", byte " + i, disk.octet(sector, 1 + i), due[i]);
        }
    }

    private static void lengthThenBytes() {
        Disk disk = new Disk(16);
        disk.end(0, false);
        Disks.end(disk, 0, false, 7);
        Disks.end(disk, 0, false, Disks.upFrom(200, 40));
        disk.sync();
        Check.due("length 0", disk.octet(2, 5), 0);
        Check.due("no byte", disk.octet(2, 6), 0);
        Check.due("length 1", disk.octet(3, 5), 1);
        Check.due("its byte", disk.octet(3, 6), 7);
        Check.due("behind it", disk.octet(3, 7), 0);
        Check.due("length 40", disk.octet(4, 5), 40);
        for (int i = 0; i < 40; i++) {
            Check.due("byte " + i + " of 40", disk.octet(4, 6 + i), 200 + i);
        }
        Check.due("behind the 40th", disk.octet(4, 46), 0);
    }

    private static void numbersFromOne() {
        Disk disk = new Disk(32);
        Check.due("the first", disk.end(0, false), 1);
        Check.due("the second, while one waits", disk.end(9, true), 2);
        disk.sync();
        Check.due("the third, behind a sync", disk.end(0, false), 3);
        disk.sync();
        disk.drop(4);
        Check.due("the fourth, behind a drop", disk.end(0, false), 4);
        disk.sync();
        disk.merge(9);
        Check.due("the fifth, behind a merge", disk.end(0, false), 5);
        disk.sync();
        Disks.dueNumbers("as kept", disk, 2, 4, 5);
    }

    private static void refusedRowsHaveNone() {
        Disk disk = Disks.withRows(16, 10);
        Check.due("no room", disk.end(0, false), PostDisk.ROOM);
        Check.due("a kind outside", disk.end(10, true), PostDisk.OUTSIDE);
        Check.due("the next one", disk.end(0, true), 11);
        Disks.takeDown(disk);
        Check.due("while down", disk.end(0, true), PostDisk.NONE);
        disk.start();
        Check.due("the next one then", disk.end(0, true), 11);
    }

    private static void overALoss() {
        for (int n = 0; n < 3; n++) {
            Disk disk = Disks.withRows(32, 4);
            Check.due("end", disk.end(0, false), 5);
            Check.due("end", disk.end(0, false), 6);
            disk.cut(n, 20);
            Check.due("sync, cut at " + n, disk.sync(), PostDisk.LOST);
            disk.start();
            Check.due("rows that were lost have their numbers again, cut at " + n, disk.end(0, false), 5);
            disk.sync();
            Disks.restart(disk);
            Check.due("one that was acknowledged has not", disk.end(0, false), 6);
        }
    }

    private static void toldInTheHead() {
        Disk disk = Disks.withRows(16, 4);
        Check.due("drop all", disk.drop(100), 4);
        Disks.dueSector("the head without rows", disk, 0, Disks.head(2, 4));
        Check.due("restart", Disks.restart(disk), 0);
        Check.due("behind rows that were dropped", disk.end(0, false), 5);
        Disk other = Disks.startedWith(16, Disks.head(6, 1000), new int[64]);
        Check.due("told by a head alone", other.end(0, false), 1001);
    }

    private static void numbersWrap() {
        Disk disk = Disks.startedWith(16, new int[64], Disks.head(1, Integer.MAX_VALUE - 1));
        Check.due("the greatest", disk.end(0, false), Integer.MAX_VALUE);
        Check.due("the one behind it", disk.end(0, false), Integer.MIN_VALUE);
        Check.due("sync", disk.sync(), 2);
        Check.due("the greatest as kept", disk.row(0, 0), Integer.MAX_VALUE);
        Check.due("the one behind it as kept", disk.row(1, 0), Integer.MIN_VALUE);
        Check.due("count(3)", disk.count(3), Integer.MIN_VALUE);
    }
}
