/** Promise 2: add. */
final class AddTest {
    public static void main(String[] args) {
        countsUpToForty();
        takesTheLowestByte();
        isRefusedWhileDown();
        keepsTheRowOverASync();
        beginsAnewAfterALoss();
        Check.end();
    }

    private static void countsUpToForty() {
        PostDisk disk = new PostDisk(16);
        for (int i = 1; i <= 40; i++) {
            Check.due("add " + i, disk.add(i), i);
        }
        Check.due("add 41", disk.add(41), PostDisk.ROOM);
        Check.due("add 42", disk.add(41), PostDisk.ROOM);
        Check.due("count(4) after ROOM", disk.count(4), 40);
        Check.due("end", disk.end(0, false), 1);
        disk.sync();
        for (int i = 0; i < 40; i++) {
            Check.due("at(0, " + i + ")", disk.at(0, i), i + 1);
        }
    }

    private static void takesTheLowestByte() {
        int[] values = {0, 255, 256, 257, -1, -256, Integer.MIN_VALUE, Integer.MAX_VALUE, 0x12345678};
        PostDisk disk = new PostDisk(16);
        Disks.end(disk, 0, false, values);
        disk.sync();
        for (int i = 0; i < values.length; i++) {
            Check.due("lowest byte of " + values[i], disk.at(0, i), values[i] & 255);
        }
    }

    private static void isRefusedWhileDown() {
        PostDisk disk = Disks.takeDown(new PostDisk(16));
        Check.due("add while down", disk.add(1), PostDisk.DOWN);
        disk.start();
        Check.due("count(4) behind it", disk.count(4), 0);
    }

    private static void keepsTheRowOverASync() {
        PostDisk disk = new PostDisk(16);
        Disks.end(disk, 1, false, 9, 8, 7);
        disk.add(5);
        disk.add(6);
        Check.due("sync", disk.sync(), 1);
        Check.due("add behind a sync", disk.add(7), 3);
        Check.due("drop", disk.drop(2), 1);
        Check.due("add behind a drop", disk.add(8), 4);
        Check.due("merge", disk.merge(1), 0);
        Check.due("end", disk.end(2, true), 2);
        disk.sync();
        for (int i = 0; i < 4; i++) {
            Check.due("at(0, " + i + ")", disk.at(0, i), 5 + i);
        }
        Check.due("length", disk.row(0, 3), 4);
    }

    private static void beginsAnewAfterALoss() {
        PostDisk disk = new PostDisk(16);
        disk.end(0, false);
        disk.add(1);
        disk.add(2);
        disk.cut(0, 10);
        Check.due("sync", disk.sync(), PostDisk.LOST);
        disk.start();
        Check.due("count(4) after a loss", disk.count(4), 0);
        Check.due("add after a loss", disk.add(3), 1);
    }
}
