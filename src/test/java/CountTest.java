/** Promise 9: count. */
final class CountTest {
    public static void main(String[] args) {
        Check.sentence("How many rows are kept (what = 0)", CountTest::kept);
        Check.sentence("wait (1)", CountTest::waiting);
        Check.sentence("the generation (2)", CountTest::generation);
        Check.sentence("the greatest number that was acknowledged (3)", CountTest::greatest);
        Check.sentence("bytes of the row that is put together (4)", CountTest::bytes);
        Check.sentence("each of them in one state", CountTest::apart);
        Check.sentence("DOWN", CountTest::whileDown);
        Check.sentence("OUTSIDE", CountTest::outside);
        Check.end();
    }

    private static void kept() {
        Check.due("none", new Disk(16).count(0), 0);
        Check.due("fourteen", Disks.withEvents(16, 14).count(0), 14);
        Check.due("fifty", Disks.withEvents(64, 50).count(0), 50);
        Disk disk = Disks.withRows(16, 2);
        disk.poke(2, 2, 2);
        Check.due("one that is wrong is kept", disk.count(0), 2);
        disk.drop(9);
        Check.due("one that was dropped is not", disk.count(0), 1);
        disk.end(0, false);
        Check.due("one that waits is not", disk.count(0), 1);
    }

    private static void waiting() {
        Disk disk = new Disk(64);
        Check.due("none", disk.count(1), 0);
        for (int i = 0; i < 50; i++) {
            disk.end(0, true);
        }
        Check.due("fifty", disk.count(1), 50);
        disk.end(0, true);
        Check.due("no fifty-first", disk.count(1), 50);
        disk.sync();
        Check.due("none behind a sync", disk.count(1), 0);
    }

    private static void generation() {
        Disk disk = new Disk(16);
        Check.due("at first", disk.count(2), 0);
        disk.end(0, false);
        Check.due("a row that waits", disk.count(2), 0);
        disk.sync();
        Check.due("a sync", disk.count(2), 1);
        for (int before = 2; before <= 130; before++) {
            disk.end(0, false);
            disk.sync();
            disk.drop(before);
        }
        Check.due("above 255", disk.count(2), 1 + 2 * 129);
    }

    private static void greatest() {
        Disk disk = new Disk(16);
        Check.due("at first", disk.count(3), 0);
        disk.end(0, false);
        disk.end(0, false);
        Check.due("two that wait", disk.count(3), 0);
        disk.sync();
        Check.due("a sync", disk.count(3), 2);
        disk.drop(3);
        Check.due("a drop", disk.count(3), 2);
        Disks.restart(disk);
        Check.due("a restart", disk.count(3), 2);
    }

    private static void bytes() {
        Disk disk = new Disk(16);
        Check.due("none", disk.count(4), 0);
        for (int i = 1; i <= 40; i++) {
            disk.add(i);
            Check.due("bytes", disk.count(4), i);
        }
        disk.add(41);
        Check.due("no forty-first", disk.count(4), 40);
        disk.end(0, false);
        Check.due("none behind an end", disk.count(4), 0);
    }

    private static void apart() {
        Disk disk = new Disk(16);
        Disks.end(disk, 0, false, 1);
        Disks.end(disk, 0, true, 1);
        disk.end(0, false);
        disk.end(0, false);
        disk.sync();
        disk.drop(2);
        disk.drop(4);
        disk.end(1, false);
        Disks.end(disk, 1, false, 5, 6);
        for (int i = 0; i < 7; i++) {
            disk.add(i);
        }
        disk.drop(5);
        int[] want = {1, 2, 4, 4, 7};
        for (int what = 0; what < 5; what++) {
            Check.due("count(" + what + ")", disk.count(what), want[what]);
        }
    }

    private static void whileDown() {
        Disk disk = Disks.takeDown(Disks.withRows(16, 1));
        for (int what = -2; what < 7; what++) {
            Check.due("count(" + what + ")", disk.count(what), PostDisk.DOWN);
        }
        disk.start();
        int[] want = {1, 0, 1, 1, 0};
        for (int what = 0; what < 5; what++) {
            Check.due("count(" + what + ") then", disk.count(what), want[what]);
        }
    }

    private static void outside() {
        Disk disk = Disks.withRows(16, 1);
        int[] outside = {-1, -2, 5, 6, 256, Integer.MIN_VALUE, Integer.MAX_VALUE};
        for (int what : outside) {
            Check.due("count(" + what + ")", disk.count(what), PostDisk.OUTSIDE);
        }
    }
}
