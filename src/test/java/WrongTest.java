/** Promise 12: wrong. */
final class WrongTest {
    public static void main(String[] args) {
        PostDisk disk = Disks.withRows(16, 6);
        Check.due("wrong(0) of none", disk.wrong(0), 0);
        Check.due("wrong(1) of none", disk.wrong(1), PostDisk.NONE);
        disk.poke(6, 63, 1);
        Check.due("wrong(0)", disk.wrong(0), 1);
        Check.due("wrong(1)", disk.wrong(1), 4);
        disk.poke(4, 0, 3);
        disk.poke(7, 59, 128);
        Check.due("wrong(0) of three", disk.wrong(0), 3);
        Check.due("wrong(1) of three", disk.wrong(1), 2);
        disk.poke(8, 0, 3);
        disk.poke(1, 0, 3);
        Check.due("sectors that are in no row", disk.wrong(0), 3);
        int[] outside = {-1, 2, 3, Integer.MIN_VALUE, Integer.MAX_VALUE};
        for (int what : outside) {
            Check.due("wrong(" + what + ")", disk.wrong(what), PostDisk.OUTSIDE);
        }
        Check.due("drop leaves those", disk.drop(100), 3);
        Check.due("wrong(0) behind a drop", disk.wrong(0), 3);
        Check.due("wrong(1) behind a drop", disk.wrong(1), 0);
        zeroSectorIsNotWhole();
        Disks.takeDown(disk);
        for (int what = -1; what < 3; what++) {
            Check.due("wrong(" + what + ") while down", disk.wrong(what), PostDisk.DOWN);
        }
        Check.end();
    }

    /** The sum of sixty zeros is 0, so only the first byte tells. */
    private static void zeroSectorIsNotWhole() {
        PostDisk disk = Disks.withRows(16, 2);
        Disks.write(disk, 2, new int[64]);
        Check.due("a sector of zeros is wrong", disk.wrong(0), 1);
        Check.due("row 0", disk.row(0, 1), PostDisk.NONE);
    }
}
