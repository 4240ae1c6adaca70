/** Promise 3: end. */
final class EndTest {
    public static void main(String[] args) {
        numbersGoUp();
        kindsOutside();
        roomIn(16, 14);
        roomIn(17, 15);
        roomIn(51, 49);
        roomIn(52, 50);
        roomIn(53, 50);
        roomIn(64, 50);
        roomCountsKeptAndWaiting();
        bytesAreGoneWithoutRoom();
        whileDown();
        numbersOverALoss();
        Check.end();
    }

    private static void numbersGoUp() {
        PostDisk disk = new PostDisk(64);
        for (int kind = 0; kind <= 9; kind++) {
            Check.due("end of kind " + kind, disk.end(kind, kind % 2 == 0), kind + 1);
            Check.due("waits", disk.count(1), kind + 1);
        }
        Check.due("writes before a sync", disk.writes(), 0);
        disk.sync();
        Check.due("number behind a sync", disk.end(0, false), 11);
        Check.due("number behind that", disk.end(0, false), 12);
    }

    private static void kindsOutside() {
        PostDisk disk = new PostDisk(16);
        disk.add(1);
        int[] outside = {-1, 10, 16, 255, 256, Integer.MIN_VALUE, Integer.MAX_VALUE};
        for (int kind : outside) {
            Check.due("end(" + kind + ", false)", disk.end(kind, false), PostDisk.OUTSIDE);
            Check.due("end(" + kind + ", true)", disk.end(kind, true), PostDisk.OUTSIDE);
        }
        Check.due("bytes stay", disk.count(4), 1);
        Check.due("none waits", disk.count(1), 0);
        Check.due("next number", disk.end(9, true), 1);
    }

    private static void roomIn(int sectors, int most) {
        PostDisk disk = new PostDisk(sectors);
        for (int number = 1; number <= most - 4; number++) {
            Check.due("S " + sectors + " end " + number, disk.end(0, false), number);
        }
        Check.due("S " + sectors + " no room", disk.end(0, false), PostDisk.ROOM);
        for (int number = most - 3; number <= most; number++) {
            Check.due("S " + sectors + " event " + number, disk.end(0, true), number);
            Check.due("S " + sectors + " still no room", disk.end(0, false), PostDisk.ROOM);
        }
        Check.due("S " + sectors + " no room for an event", disk.end(0, true), PostDisk.ROOM);
        Check.due("S " + sectors + " sync", disk.sync(), most);
        Check.due("S " + sectors + " no room behind it", disk.end(0, true), PostDisk.ROOM);
        Check.due("S " + sectors + " last sector", disk.row(most - 1, 4), most + 1);
    }

    private static void roomCountsKeptAndWaiting() {
        PostDisk disk = Disks.withRows(16, 6);
        for (int i = 7; i <= 10; i++) {
            Check.due("end " + i, disk.end(0, false), i);
        }
        Check.due("kept and waiting are 10", disk.end(0, false), PostDisk.ROOM);
        Check.due("drop", disk.drop(3), 2);
        Check.due("room again", disk.end(0, false), 11);
    }

    private static void bytesAreGoneWithoutRoom() {
        PostDisk disk = Disks.withRows(16, 10);
        disk.add(1);
        disk.add(2);
        Check.due("no room", disk.end(0, false), PostDisk.ROOM);
        Check.due("bytes are gone", disk.count(4), 0);
        Check.due("end with room", disk.end(0, true), 11);
        disk.sync();
        Check.due("it is empty", disk.row(10, 3), 0);
        PostDisk full = new PostDisk(64);
        for (int i = 0; i < 50; i++) {
            full.end(0, true);
        }
        for (int i = 1; i <= 40; i++) {
            Check.due("add behind fifty", full.add(i), i);
        }
        Check.due("no room for the fifty-first", full.end(0, true), PostDisk.ROOM);
        Check.due("its bytes are gone", full.count(4), 0);
    }

    private static void whileDown() {
        PostDisk disk = Disks.takeDown(Disks.withRows(16, 10));
        Check.due("end while down", disk.end(3, true), PostDisk.NONE);
        Check.due("end while down, no room", disk.end(3, false), PostDisk.NONE);
        Check.due("end(10) while down", disk.end(10, true), PostDisk.OUTSIDE);
        disk.start();
        Check.due("none waits", disk.count(1), 0);
        Check.due("next number", disk.end(3, true), 11);
    }

    private static void numbersOverALoss() {
        PostDisk disk = Disks.withRows(32, 4);
        disk.end(0, false);
        disk.end(0, false);
        disk.cut(1, 20);
        disk.sync();
        disk.start();
        Check.due("numbers of lost rows come again", disk.end(0, false), 5);
        disk.sync();
        Check.due("drop all", disk.drop(100), 5);
        Check.due("restart", Disks.restart(disk), 0);
        Check.due("numbers of dropped rows do not", disk.end(0, false), 6);
    }
}
