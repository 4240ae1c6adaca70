/** Promise 11: at. */
final class AtTest {
    public static void main(String[] args) {
        Check.sentence("Byte i of kept row k, 0 .. 255", AtTest::bytes);
        Check.sentence("NONE when it is WRONG", AtTest::noneWhenWrong);
        Check.sentence("DOWN", AtTest::whileDown);
        Check.sentence("ArrayIndexOutOfBoundsException: there is no such row", AtTest::noSuchRow);
        Check.sentence("or byte", AtTest::noSuchByte);
        Check.sentence("(of one that is WRONG i is not looked at)", AtTest::notLookedAt);
        Check.end();
    }

    private static void bytes() {
        Disk disk = new Disk(16);
        for (int first = 0; first < 240; first += 40) {
            Disks.end(disk, 1, false, Disks.upFrom(first, 40));
        }
        disk.sync();
        for (int b = 0; b < 240; b++) {
            Check.due("at(" + b / 40 + ", " + b % 40 + ")", disk.at(b / 40, b % 40), b);
        }
        Disk high = new Disk(64);
        for (int i = 0; i < 49; i++) {
            high.end(0, true);
        }
        Disks.end(high, 9, true, Disks.upFrom(216, 40));
        high.sync();
        for (int i = 0; i < 40; i++) {
            Check.due("at(49, " + i + ")", high.at(49, i), 216 + i);
        }
    }

    private static void noneWhenWrong() {
        Disk disk = Disks.withRows(16, 3);
        disk.poke(3, 6, 1);
        Check.due("at(1, 0)", disk.at(1, 0), PostDisk.NONE);
        Check.due("the row before", disk.at(0, 0), 100);
        Check.due("the row behind", disk.at(2, 0), 102);
        disk.poke(3, 6, 1);
        Check.due("at(1, 0) when it is mended", disk.at(1, 0), 101);
        Disks.write(disk, 3, Disks.row(11, 2, 5));
        Check.due("a whole sector that is not a row's", disk.at(1, 0), PostDisk.NONE);
        Disks.write(disk, 3, Disks.row(1, 2, new int[41]));
        Check.due("byte 0 of 41", disk.at(1, 0), PostDisk.NONE);
        Disks.write(disk, 3, Disks.row(1, 2, new int[40]));
        Check.due("byte 39 of 40", disk.at(1, 39), 0);
    }

    private static void whileDown() {
        Disk disk = Disks.takeDown(Disks.withRows(16, 1));
        int[][] pairs = {
            {0, 0}, {0, 1}, {0, -1}, {1, 0}, {-1, -1}, {Integer.MIN_VALUE, 0}, {0, Integer.MAX_VALUE}
        };
        for (int[] pair : pairs) {
            Check.due("at(" + pair[0] + ", " + pair[1] + ")", disk.at(pair[0], pair[1]), PostDisk.DOWN);
        }
    }

    private static void noSuchRow() {
        Disk disk = Disks.withRows(16, 2);
        Disks.end(disk, 1, false, 1);
        int[] none = {-1, -2, 2, 3, 49, 50, 51, 255, Integer.MIN_VALUE, Integer.MAX_VALUE};
        for (int k : none) {
            Check.outOfBounds("at(" + k + ", 0)", () -> disk.at(k, 0));
        }
        Disk fifty = Disks.withEvents(64, 50);
        Check.outOfBounds("at(50, 0)", () -> fifty.at(50, 0));
        Disk empty = new Disk(16);
        Check.outOfBounds("at(0, 0) of none", () -> empty.at(0, 0));
        disk.drop(2);
        Check.outOfBounds("at(1, 0) behind a drop", () -> disk.at(1, 0));
        Check.due("at(0, 0) behind a drop", disk.at(0, 0), 101);
    }

    private static void noSuchByte() {
        Disk disk = new Disk(16);
        Disks.end(disk, 1, false, 1, 2, 3);
        Disks.end(disk, 1, false);
        Disks.end(disk, 1, false, new int[40]);
        disk.sync();
        int[][] outside = {
            {0, 3}, {0, -1}, {0, 40}, {0, Integer.MIN_VALUE}, {0, Integer.MAX_VALUE}, {1, 0}, {1, -1}, {1, 1},
            {2, 40}, {2, -1}, {2, 41}, {2, 58}
        };
        for (int[] pair : outside) {
            Check.outOfBounds("at(" + pair[0] + ", " + pair[1] + ")", () -> disk.at(pair[0], pair[1]));
        }
        Check.due("at(0, 2)", disk.at(0, 2), 3);
        Check.due("at(2, 39)", disk.at(2, 39), 0);
    }

    private static void notLookedAt() {
        Disk disk = Disks.withRows(16, 2);
        disk.poke(2, 7, 1);
        int[] any = {0, 1, -1, 40, 64, 99, Integer.MIN_VALUE, Integer.MAX_VALUE};
        for (int i : any) {
            Check.due("at(0, " + i + ")", disk.at(0, i), PostDisk.NONE);
        }
        Check.outOfBounds("the row is looked at", () -> disk.at(2, 0));
    }
}
