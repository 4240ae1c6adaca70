/** Promise 15: writes. */
final class WritesTest {
    public static void main(String[] args) {
        PostDisk disk = new PostDisk(16);
        due(disk, "new", 0);
        for (int i = 0; i < 5; i++) {
            Disks.end(disk, i, false, i);
        }
        due(disk, "rows wait", 0);
        disk.sync();
        due(disk, "sync of five", 6);
        disk.drop(3);
        due(disk, "drop", 7);
        disk.merge(1);
        due(disk, "move", 9);
        disk.sync();
        disk.drop(1);
        disk.merge(0);
        disk.poke(2, 2, 2);
        disk.poke(2, 2, 2);
        due(disk, "nothing", 9);
        disk.cut(1, 0);
        disk.end(0, false);
        disk.end(0, false);
        disk.sync();
        due(disk, "loss at the second", 11);
        disk.sync();
        disk.drop(9);
        disk.merge(9);
        due(disk, "while down", 11);
        disk.start();
        due(disk, "start", 11);
        disk.end(0, false);
        disk.cut(1, 63);
        disk.sync();
        due(disk, "loss at the head", 13);
        Check.end();
    }

    private static void due(PostDisk disk, String when, int want) {
        Check.due("writes, " + when, disk.writes(), want);
    }
}
