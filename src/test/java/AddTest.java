/** Promise 2: add. */
final class AddTest {
    public static void main(String[] args) {
        Check.sentence("The lowest byte of b comes to the row that is put together", AddTest::lowestByte);
        Check.sentence("how many it has", AddTest::howMany);
        Check.sentence("the row that is put together: also over a sync, a drop, a merge", AddTest::overOtherCalls);
        Check.sentence("DOWN", AddTest::whileDown);
        Check.sentence("ROOM (it has 40)", AddTest::roomForForty);
        Check.sentence("forty bytes behind rows that wait", AddTest::fortyBehindOthers);
        Check.sentence("bytes behind fifty rows that wait, over their sync", AddTest::behindFifty);
        Check.end();
    }

    private static void lowestByte() {
        int[] values = {
            0, 1, 127, 128, 255, 256, 257, 511, -1, -2, -128, -255, -256, -257, Integer.MIN_VALUE, Integer.MAX_VALUE,
            0x12345678
        };
        Disk disk = new Disk(16);
        Disks.end(disk, 0, false, values);
        disk.sync();
        for (int i = 0; i < values.length; i++) {
            Check.due("lowest byte of " + values[i], disk.at(0, i), values[i] & 255);
        }
    }

    private static void howMany() {
        Disk disk = new Disk(16);
        for (int i = 1; i <= 40; i++) {
            Check.due("add " + i, disk.add(0), i);
        }
        disk.end(0, false);
        Check.due("the first of the next row", disk.add(0), 1);
        disk.end(0, false);
        disk.end(0, false);
        Check.due("the first behind a row of no bytes", disk.add(0), 1);
    }

    private static void overOtherCalls() {
        Disk disk = new Disk(16);
        Disks.end(disk, 1, false, 9, 8, 7);
        disk.end(1, true);
        disk.add(5);
        disk.add(6);
        Check.due("sync", disk.sync(), 2);
        Check.due("add behind a sync", disk.add(7), 3);
        Check.due("drop", disk.drop(2), 1);
        Check.due("add behind a drop", disk.add(8), 4);
        Check.due("merge", disk.merge(1), 1);
        Check.due("add behind a merge", disk.add(9), 5);
        Check.due("end", disk.end(2, true), 3);
        disk.sync();
        Check.due("length", disk.row(1, 3), 5);
        for (int i = 0; i < 5; i++) {
            Check.due("at(1, " + i + ")", disk.at(1, i), 5 + i);
        }
    }

    private static void whileDown() {
        Disk disk = new Disk(16);
        for (int i = 0; i < 40; i++) {
            disk.add(i);
        }
        Disks.takeDown(disk);
        Check.due("add", disk.add(1), PostDisk.DOWN);
        disk.start();
        Check.due("count(4) then", disk.count(4), 0);
        Check.due("add then", disk.add(3), 1);
    }

    private static void roomForForty() {
        Disk disk = new Disk(16);
        for (int i = 1; i <= 39; i++) {
            disk.add(i);
        }
        Check.due("the 40th", disk.add(40), 40);
        Check.due("the 41st", disk.add(41), PostDisk.ROOM);
        Check.due("once more", disk.add(42), PostDisk.ROOM);
        Check.due("count(4)", disk.count(4), 40);
        Check.due("end", disk.end(0, false), 1);
        disk.sync();
        for (int i = 0; i < 40; i++) {
            Check.due("at(0, " + i + ")", disk.at(0, i), i + 1);
        }
        Check.due("room in the next row", disk.add(1), 1);
    }

    /** The last row that may wait, and one behind it that finds no room, are forty bytes long, too. */
    private static void fortyBehindOthers() {
        Disk disk = new Disk(64);
        for (int i = 0; i < 49; i++) {
            disk.end(0, true);
        }
        for (int i = 1; i <= 40; i++) {
            Check.due("add to the fiftieth", disk.add(100 + i), i);
        }
        Check.due("a 41st byte", disk.add(1), PostDisk.ROOM);
        Check.due("end", disk.end(0, true), 50);
        for (int i = 1; i <= 40; i++) {
            Check.due("add to the one behind it", disk.add(200), i);
        }
        Check.due("a 41st byte", disk.add(1), PostDisk.ROOM);
        Check.due("sync", disk.sync(), 50);
        for (int i = 0; i < 40; i++) {
            Check.due("at(49, " + i + ")", disk.at(49, i), 101 + i);
        }
        Check.due("bytes over the sync", disk.count(4), 40);
    }

    private static void behindFifty() {
        Disk disk = new Disk(64);
        for (int i = 1; i <= 50; i++) {
            Check.due("end", disk.end(0, i > 46), i);
        }
        for (int i = 1; i <= 40; i++) {
            disk.add(200 + i);
        }
        Check.due("sync", disk.sync(), 50);
        Check.due("drop", disk.drop(51), 46);
        Check.due("end of the row behind them", disk.end(7, false), 51);
        Check.due("its sync", disk.sync(), 1);
        Disks.dueSector("its sector", disk, 2, Disks.row(8, 51, Disks.upFrom(201, 40)));
    }
}
