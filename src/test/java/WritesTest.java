/** Promise 15: writes. */
final class WritesTest {
    public static void main(String[] args) {
        Check.sentence("How many writes there were", WritesTest::howMany);
        Check.sentence("calls that write nothing", WritesTest::nothing);
        Check.sentence("(also the one at which power went)", WritesTest::atTheLoss);
        Check.sentence("over a start", WritesTest::overAStart);
        Check.end();
    }

    private static void howMany() {
        Disk disk = Disks.withRows(16, 5);
        due(disk, "a sync of five", 6);
        disk.drop(3);
        due(disk, "a drop", 7);
        disk.merge(1);
        due(disk, "a move", 9);
        disk.merge(100);
        due(disk, "another", 11);
        due(Disks.withEvents(64, 50), "a sync of fifty", 51);
    }

    private static void nothing() {
        Disk disk = new Disk(16);
        due(disk, "new", 0);
        disk.add(1);
        disk.end(0, false);
        due(disk, "a row that waits", 0);
        disk.merge(1);
        disk.drop(9);
        due(disk, "a merge that is refused, a drop of none", 0);
        disk.sync();
        disk.sync();
        due(disk, "a sync of one, and of none", 2);
        disk.merge(0);
        disk.merge(100);
        disk.drop(1);
        disk.poke(2, 2, 2);
        disk.octet(2, 2);
        disk.start();
        disk.cut(0, 0);
        due(disk, "nothing to do", 2);
    }

    private static void atTheLoss() {
        int[] tears = {0, 1, 63};
        for (int tear : tears) {
            for (int n = 0; n < 3; n++) {
                Disk disk = Disks.withRows(16, 1);
                disk.end(0, false);
                disk.end(0, false);
                disk.cut(n, tear);
                disk.sync();
                due(disk, "power went at " + n + ", behind " + tear, 2 + n + 1);
            }
        }
    }

    private static void overAStart() {
        Disk disk = Disks.takeDown(Disks.withRows(16, 2));
        due(disk, "down", 4);
        disk.sync();
        disk.drop(9);
        disk.merge(9);
        disk.end(0, false);
        due(disk, "refused", 4);
        disk.start();
        due(disk, "start", 4);
        disk.drop(9);
        due(disk, "a drop", 5);
    }

    private static void due(Disk disk, String when, int want) {
        Check.due("writes, " + when, disk.writes(), want);
    }
}
