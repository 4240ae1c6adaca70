/** Promise 9: count. */
final class CountTest {
    public static void main(String[] args) {
        PostDisk disk = new PostDisk(16);
        Disks.end(disk, 0, false, 1);
        Disks.end(disk, 0, true, 1);
        disk.sync();
        disk.drop(2);
        disk.end(1, false);
        disk.end(1, false);
        disk.end(1, false);
        for (int i = 0; i < 7; i++) {
            disk.add(i);
        }
        int[] want = {1, 3, 2, 2, 7};
        for (int what = 0; what < 5; what++) {
            Check.due("count(" + what + ")", disk.count(what), want[what]);
        }
        int[] outside = {-1, 5, 6, Integer.MIN_VALUE, Integer.MAX_VALUE};
        for (int what : outside) {
            Check.due("count(" + what + ")", disk.count(what), PostDisk.OUTSIDE);
        }
        disk.cut(0, 0);
        disk.sync();
        for (int what = -1; what < 6; what++) {
            Check.due("count(" + what + ") while down", disk.count(what), PostDisk.DOWN);
        }
        disk.start();
        int[] after = {1, 0, 2, 2, 0};
        for (int what = 0; what < 5; what++) {
            Check.due("count(" + what + ") after a start", disk.count(what), after[what]);
        }
        Check.end();
    }
}
