/** Promise 8: start. */
final class StartTest {
    public static void main(String[] args) {
        Check.sentence("All is read from the disk again", StartTest::readAgain);
        Check.sentence("what was altered while it was down, too", StartTest::readAsAltered);
        Check.sentence("what is read is what was held before", StartTest::readAsHeld);
        Check.sentence("how many rows are kept", StartTest::howMany);
        Check.sentence("(power stays)", StartTest::powerStays);
        Check.sentence("STATE when it is not DOWN", StartTest::notDown);
        Check.end();
    }

    private static void readAgain() {
        Disk disk = Disks.withRows(16, 3);
        disk.drop(2);
        Check.due("the second head counts", Disks.restart(disk), 2);
        disk.drop(3);
        Check.due("the third head counts", Disks.restart(disk), 1);
        disk.poke(1, 30, 4);
        Check.due("one that is altered does not", Disks.restart(disk), 2);
        Check.due("generation", disk.count(2), 2);
        disk.poke(1, 30, 4);
        Check.due("it counts when it is mended", Disks.restart(disk), 1);
        Check.due("generation then", disk.count(2), 3);
    }

    private static void readAsAltered() {
        Disk disk = Disks.takeDown(Disks.withRows(16, 3));
        Disks.write(disk, 0, Disks.head(6, 60, 4, 9));
        Disks.write(disk, 9, Disks.row(20, 60, 1, 2));
        Check.due("start", disk.start(), 2);
        Check.due("generation", disk.count(2), 6);
        Check.due("greatest", disk.count(3), 60);
        Disks.dueNumbers("rows", disk, 3, 60);
        Check.due("kind", disk.row(1, 1), 3);
        Check.due("event", disk.row(1, 2), 1);
        Check.due("byte", disk.at(1, 1), 2);
    }

    private static void readAsHeld() {
        Disk disk = new Disk(30);
        for (int i = 0; i < 12; i++) {
            Disks.end(disk, i % 10, i % 4 == 0, i, i + 1);
        }
        disk.sync();
        disk.drop(9);
        disk.merge(2);
        String before = Disks.told(disk, 0);
        int writes = disk.writes();
        Disks.restart(disk);
        String after = Disks.told(disk, 0).replace("writes " + (writes + 1), "writes " + writes);
        Check.same("all that is told", after, before);
    }

    private static void howMany() {
        Check.due("none was ever kept", Disks.takeDown(new Disk(16)).start(), 0);
        Disk none = Disks.withRows(16, 1);
        none.drop(2);
        Check.due("none is kept any more", Disks.restart(none), 0);
        for (int rows = 1; rows < 50; rows++) {
            Check.due("start with " + rows, Disks.restart(Disks.withEvents(64, rows)), rows);
        }
        Disk full = new Disk(64);
        full.end(0, false);
        for (int i = 0; i < 49; i++) {
            full.end(0, true);
        }
        full.sync();
        full.cut(0, 0);
        Check.due("a drop that is lost", full.drop(2), PostDisk.LOST);
        Check.due("start with fifty", full.start(), 50);
        Disks.dueSectorsOfRows("fifty", full, Disks.upFrom(2, 50));
    }

    private static void powerStays() {
        Disk disk = Disks.withRows(16, 5);
        disk.cut(0, 30);
        Check.due("drop", disk.drop(2), PostDisk.LOST);
        disk.start();
        for (int before = 2; before <= 5; before++) {
            Check.due("drop(" + before + ")", disk.drop(before), 1);
        }
        disk.end(0, false);
        Check.due("sync", disk.sync(), 1);
        Check.due("merge", disk.merge(1), 1);
    }

    private static void notDown() {
        Disk disk = Disks.withRows(16, 2);
        Check.due("start while up", disk.start(), PostDisk.STATE);
        disk.poke(1, 0, 255);
        disk.end(0, false);
        disk.add(1);
        disk.cut(0, 0);
        Check.due("start with rows that wait", disk.start(), PostDisk.STATE);
        Check.due("nothing was read", disk.count(0), 2);
        Check.due("they still wait", disk.count(1), 1);
        Check.due("its byte is there", disk.count(4), 1);
        Check.due("power goes as it was set", disk.sync(), PostDisk.LOST);
        Check.due("start", disk.start(), 0);
        Check.due("start again", disk.start(), PostDisk.STATE);
        Check.due("a new one", new Disk(16).start(), PostDisk.STATE);
    }
}
