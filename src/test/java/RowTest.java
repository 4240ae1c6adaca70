/** Promise 10: row, and what makes one WRONG. */
final class RowTest {
    public static void main(String[] args) {
        Check.sentence("Of kept row k (0 the first): number, kind, event, length, sector", RowTest::allOfARow);
        Check.sentence("the last of fifty", RowTest::lastOfFifty);
        Check.sentence("NONE when there is none such", RowTest::noneSuch);
        Check.sentence("for 0 to 3 also when it is WRONG", RowTest::noneWhenWrong);
        Check.sentence("WRONG: its sector is not whole", RowTest::notWhole);
        Check.sentence("or not that of a row (first byte 1 .. 10 or 17 .. 26", RowTest::firstBytes);
        Check.sentence("length at most 40)", RowTest::lengths);
        Check.sentence("DOWN", RowTest::whileDown);
        Check.sentence("OUTSIDE", RowTest::outside);
        Check.end();
    }

    private static void allOfARow() {
        Disk disk = new Disk(40);
        for (int k = 0; k < 20; k++) {
            Disks.end(disk, k % 10, k >= 10, Disks.bytes(k == 19 ? 40 : k, k));
        }
        disk.sync();
        for (int k = 0; k < 20; k++) {
            Check.due("number of row " + k, disk.row(k, 0), k + 1);
            Check.due("kind of row " + k, disk.row(k, 1), k % 10);
            Check.due("event, row " + k, disk.row(k, 2), k >= 10 ? 1 : 0);
            Check.due("length of row " + k, disk.row(k, 3), k == 19 ? 40 : k);
            Check.due("sector of row " + k, disk.row(k, 4), k + 2);
        }
    }

    private static void lastOfFifty() {
        Disk disk = Disks.withEvents(52, 50);
        int[] want = {50, 9, 1, 0, 51};
        for (int what = 0; what < 5; what++) {
            Check.due("row(49, " + what + ")", disk.row(49, what), want[what]);
            Check.due("row(50, " + what + ")", disk.row(50, what), PostDisk.NONE);
        }
    }

    private static void noneSuch() {
        Disk disk = Disks.withRows(16, 2);
        disk.end(0, false);
        int[] none = {-1, -2, 2, 3, 49, 50, 51, 64, 255, Integer.MIN_VALUE, Integer.MAX_VALUE};
        for (int k : none) {
            for (int what = 0; what < 5; what++) {
                Check.due("row(" + k + ", " + what + ")", disk.row(k, what), PostDisk.NONE);
            }
        }
        disk.drop(2);
        for (int what = 0; what < 5; what++) {
            Check.due("a dropped row, " + what, disk.row(1, what), PostDisk.NONE);
        }
        Check.due("none is kept", new Disk(16).row(0, 4), PostDisk.NONE);
    }

    private static void noneWhenWrong() {
        Disk disk = Disks.withRows(16, 3);
        disk.poke(3, 40, 1);
        for (int what = 0; what < 4; what++) {
            Check.due("row(1, " + what + ")", disk.row(1, what), PostDisk.NONE);
        }
        Check.due("its sector", disk.row(1, 4), 3);
        int[] before = {1, 0, 0, 1, 2};
        int[] behind = {3, 2, 0, 1, 4};
        for (int what = 0; what < 5; what++) {
            Check.due("row(0, " + what + ")", disk.row(0, what), before[what]);
            Check.due("row(2, " + what + ")", disk.row(2, what), behind[what]);
        }
    }

    private static void notWhole() {
        for (int i = 0; i < 64; i++) {
            Disk disk = Disks.withRows(16, 3);
            disk.poke(3, i, 1 << i % 8);
            for (int what = 0; what < 4; what++) {
                Check.due("byte " + i + " altered, row(1, " + what + ")", disk.row(1, what), PostDisk.NONE);
            }
            Check.due("byte " + i + " altered, sector", disk.row(1, 4), 3);
            disk.poke(3, i, 1 << i % 8);
            Check.due("byte " + i + " mended", disk.row(1, 0), 2);
        }
    }

    private static void firstBytes() {
        for (int mark = 0; mark < 256; mark++) {
            boolean event = mark >= 17 && mark <= 26;
            boolean right = event || mark >= 1 && mark <= 10;
            Disk disk = Disks.withRows(16, 1);
            Disks.write(disk, 2, Disks.row(mark, 300, 1, 2));
            Check.due("first byte " + mark + ", number", disk.row(0, 0), right ? 300 : PostDisk.NONE);
            int kind = event ? mark - 17 : mark - 1;
            Check.due("first byte " + mark + ", kind", disk.row(0, 1), right ? kind : PostDisk.NONE);
            Check.due("first byte " + mark + ", event", disk.row(0, 2), event ? 1 : right ? 0 : PostDisk.NONE);
            Check.due("first byte " + mark + ", length", disk.row(0, 3), right ? 2 : PostDisk.NONE);
            Check.due("first byte " + mark + ", sector", disk.row(0, 4), 2);
        }
    }

    private static void lengths() {
        for (int length = 0; length < 256; length++) {
            Disk disk = Disks.withRows(16, 1);
            Disks.write(disk, 2, Disks.withByte(Disks.row(1, 5, Disks.bytes(40, 3)), 5, length));
            boolean right = length <= 40;
            Check.due("length " + length, disk.row(0, 3), right ? length : PostDisk.NONE);
            Check.due("number, length " + length, disk.row(0, 0), right ? 5 : PostDisk.NONE);
            Check.due("wrong, length " + length, disk.wrong(0), right ? 0 : 1);
        }
    }

    private static void whileDown() {
        Disk disk = Disks.takeDown(Disks.withRows(16, 2));
        int[] rows = {-1, 0, 1, 2};
        for (int k : rows) {
            for (int what = -1; what < 6; what++) {
                Check.due("row(" + k + ", " + what + ")", disk.row(k, what), PostDisk.DOWN);
            }
        }
    }

    private static void outside() {
        Disk disk = Disks.withRows(16, 2);
        disk.poke(3, 1, 1);
        int[] outside = {-1, -2, 5, 6, 256, Integer.MIN_VALUE, Integer.MAX_VALUE};
        for (int what : outside) {
            Check.due("row(0, " + what + ")", disk.row(0, what), PostDisk.OUTSIDE);
            Check.due("row(1, " + what + ") of a wrong row", disk.row(1, what), PostDisk.OUTSIDE);
            Check.due("row(2, " + what + ") of no row", disk.row(2, what), PostDisk.OUTSIDE);
        }
    }
}
