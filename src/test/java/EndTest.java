/** Promise 3: end. */
final class EndTest {
    public static void main(String[] args) {
        Check.sentence("The row is ended: its number", EndTest::itsNumber);
        Check.sentence("and it waits", EndTest::itWaits);
        Check.sentence("or ROOM: there is none", EndTest::noRoom);
        Check.sentence("(its bytes are gone)", EndTest::bytesAreGone);
        Check.sentence("OUTSIDE (kind)", EndTest::kindsOutside);
        Check.sentence("OUTSIDE before ROOM", EndTest::outsideWithoutRoom);
        Check.sentence("NONE when it is DOWN", EndTest::whileDown);
        Check.sentence("OUTSIDE stands before NONE", EndTest::outsideWhileDown);
        Check.end();
    }

    private static void itsNumber() {
        Disk disk = new Disk(64);
        for (int kind = 0; kind <= 9; kind++) {
            Check.due("kind " + kind, disk.end(kind, kind % 2 == 0), kind + 1);
        }
        disk.sync();
        Check.due("behind a sync", disk.end(0, false), 11);
        Check.due("behind that", disk.end(0, false), 12);
    }

    private static void itWaits() {
        Disk disk = new Disk(16);
        disk.add(1);
        for (int many = 1; many <= 10; many++) {
            disk.end(0, false);
            Check.due("that wait", disk.count(1), many);
            Check.due("bytes put together", disk.count(4), 0);
        }
        Check.due("kept", disk.count(0), 0);
        Check.due("writes", disk.writes(), 0);
        Check.due("sync", disk.sync(), 10);
        Check.due("length of the first", disk.row(0, 3), 1);
        Check.due("length of the second", disk.row(1, 3), 0);
    }

    private static void noRoom() {
        Disk disk = Disks.withRows(16, 10);
        Check.due("a row", disk.end(9, false), PostDisk.ROOM);
        Check.due("none waits", disk.count(1), 0);
        for (int i = 11; i <= 14; i++) {
            Check.due("an event", disk.end(0, true), i);
        }
        Check.due("an event more", disk.end(9, true), PostDisk.ROOM);
        Check.due("four wait", disk.count(1), 4);
        Check.due("sync", disk.sync(), 4);
        Check.due("kept", disk.count(0), 14);
    }

    private static void bytesAreGone() {
        Disk disk = Disks.withRows(16, 10);
        disk.add(1);
        disk.add(2);
        Check.due("no room", disk.end(0, false), PostDisk.ROOM);
        Check.due("bytes are gone", disk.count(4), 0);
        Check.due("an event behind it", disk.end(0, true), 11);
        disk.sync();
        Check.due("has none of them", disk.row(10, 3), 0);
        Disk full = new Disk(64);
        for (int i = 0; i < 50; i++) {
            full.end(0, true);
        }
        for (int i = 1; i <= 40; i++) {
            full.add(i);
        }
        Check.due("no room for a fifty-first", full.end(0, true), PostDisk.ROOM);
        Check.due("forty bytes are gone", full.count(4), 0);
        Check.due("fifty wait", full.count(1), 50);
    }

    private static void kindsOutside() {
        Disk disk = new Disk(16);
        disk.add(1);
        int[] outside = {-1, -2, 10, 11, 16, 26, 255, 256, Integer.MIN_VALUE, Integer.MAX_VALUE};
        for (int kind : outside) {
            Check.due("end(" + kind + ", false)", disk.end(kind, false), PostDisk.OUTSIDE);
            Check.due("end(" + kind + ", true)", disk.end(kind, true), PostDisk.OUTSIDE);
        }
        Check.due("the byte stays", disk.count(4), 1);
        Check.due("none waits", disk.count(1), 0);
        Check.due("kind 9", disk.end(9, true), 1);
        Check.due("kind 0", disk.end(0, true), 2);
    }

    /** A call that is refused for its kind does not take the bytes, as one without room does. */
    private static void outsideWithoutRoom() {
        Disk disk = Disks.withEvents(16, 14);
        disk.add(1);
        Check.due("end(10, true)", disk.end(10, true), PostDisk.OUTSIDE);
        Check.due("the byte stays", disk.count(4), 1);
        Check.due("end(9, true)", disk.end(9, true), PostDisk.ROOM);
        Check.due("the byte is gone", disk.count(4), 0);
    }

    private static void whileDown() {
        Disk disk = Disks.takeDown(Disks.withRows(16, 10));
        for (int kind = 0; kind <= 9; kind++) {
            Check.due("an event", disk.end(kind, true), PostDisk.NONE);
            Check.due("a row that has no room", disk.end(kind, false), PostDisk.NONE);
        }
        disk.start();
        Check.due("none waits", disk.count(1), 0);
        Check.due("the next number", disk.end(3, true), 11);
    }

    private static void outsideWhileDown() {
        Disk disk = Disks.takeDown(new Disk(16));
        Check.due("end(-1, true)", disk.end(-1, true), PostDisk.OUTSIDE);
        Check.due("end(10, false)", disk.end(10, false), PostDisk.OUTSIDE);
        Check.due("start", disk.start(), 0);
    }
}
