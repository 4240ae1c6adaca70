/** Promise 10: row, and what makes one WRONG. */
final class RowTest {
    public static void main(String[] args) {
        allKinds();
        noneSuch();
        outside();
        everyAlteredByteIsTold();
        marksAndLengths();
        Check.end();
    }

    private static void allKinds() {
        PostDisk disk = new PostDisk(40);
        for (int k = 0; k < 20; k++) {
            Disks.end(disk, k % 10, k >= 10, new int[2 * k]);
        }
        disk.sync();
        for (int k = 0; k < 20; k++) {
            Check.due("number of row " + k, disk.row(k, 0), k + 1);
            Check.due("kind of row " + k, disk.row(k, 1), k % 10);
            Check.due("event, row " + k, disk.row(k, 2), k >= 10 ? 1 : 0);
            Check.due("length of row " + k, disk.row(k, 3), 2 * k);
            Check.due("sector of row " + k, disk.row(k, 4), k + 2);
        }
    }

    private static void noneSuch() {
        PostDisk disk = Disks.withRows(16, 2);
        disk.end(0, false);
        int[] none = {-1, 2, 3, 49, 50, 51, 64, Integer.MIN_VALUE, Integer.MAX_VALUE};
        for (int k : none) {
            for (int what = 0; what < 5; what++) {
                Check.due("row(" + k + ", " + what + ")", disk.row(k, what), PostDisk.NONE);
            }
        }
        disk.drop(2);
        Check.due("a dropped row", disk.row(1, 4), PostDisk.NONE);
    }

    private static void outside() {
        PostDisk disk = Disks.withRows(16, 2);
        int[] outside = {-1, 5, Integer.MIN_VALUE, Integer.MAX_VALUE};
        for (int what : outside) {
            Check.due("row(0, " + what + ")", disk.row(0, what), PostDisk.OUTSIDE);
            Check.due("row(9, " + what + ")", disk.row(9, what), PostDisk.OUTSIDE);
        }
        disk.poke(2, 1, 1);
        Check.due("row(0, 5) of a wrong row", disk.row(0, 5), PostDisk.OUTSIDE);
        Disks.takeDown(disk);
        Check.due("row(0, 4) while down", disk.row(0, 4), PostDisk.DOWN);
        Check.due("row(9, 5) while down", disk.row(9, 5), PostDisk.DOWN);
    }

    private static void everyAlteredByteIsTold() {
        for (int i = 0; i < 64; i++) {
            PostDisk disk = Disks.withRows(16, 3);
            disk.poke(3, i, 1 << i % 8);
            for (int what = 0; what < 4; what++) {
                Check.due("byte " + i + " altered, row(1, " + what + ")", disk.row(1, what), PostDisk.NONE);
            }
            Check.due("byte " + i + " altered, sector", disk.row(1, 4), 3);
            Check.due("byte " + i + " altered, first", disk.wrong(1), 1);
            Check.due("byte " + i + " altered, the next row", disk.row(2, 0), 3);
            disk.poke(3, i, 1 << i % 8);
            Check.due("byte " + i + " mended", disk.row(1, 0), 2);
        }
    }

    private static void marksAndLengths() {
        PostDisk disk = new PostDisk(16);
        disk.end(0, false);
        disk.sync();
        for (int mark = 0; mark < 256; mark += mark < 30 ? 1 : 25) {
            boolean event = mark >= 17 && mark <= 26;
            boolean right = event || mark >= 1 && mark <= 10;
            PostDisk other = Disks.withRows(16, 1);
            Disks.write(other, 2, Disks.row(mark, 300, 1, 2));
            Check.due("mark " + mark + ", number", other.row(0, 0), right ? 300 : PostDisk.NONE);
            Check.due("mark " + mark + ", wrong", other.wrong(0), right ? 0 : 1);
            if (right) {
                Check.due("mark " + mark + ", kind", other.row(0, 1), event ? mark - 17 : mark - 1);
                Check.due("mark " + mark + ", event", other.row(0, 2), event ? 1 : 0);
            }
        }
        Disks.write(disk, 2, Disks.row(1, 5, new int[40]));
        Check.due("length 40", disk.row(0, 3), 40);
        Disks.write(disk, 2, Disks.row(1, 5, new int[41]));
        Check.due("length 41", disk.row(0, 3), PostDisk.NONE);
        Check.due("length 41 is wrong", disk.wrong(0), 1);
    }
}
