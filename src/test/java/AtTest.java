/** Promise 11: at. */
final class AtTest {
    public static void main(String[] args) {
        bytes();
        outOfBounds();
        wrongRows();
        whileDown();
        Check.end();
    }

    private static void bytes() {
        PostDisk disk = new PostDisk(16);
        for (int start = 0; start < 256; start += 40) {
            int[] content = new int[40];
            for (int i = 0; i < 40; i++) {
                content[i] = start + i & 255;
            }
            Disks.end(disk, 1, false, content);
        }
        disk.sync();
        for (int k = 0; k < 6; k++) {
            for (int i = 0; i < 40; i++) {
                Check.due("at(" + k + ", " + i + ")", disk.at(k, i), 40 * k + i & 255);
            }
        }
    }

    private static void outOfBounds() {
        PostDisk disk = new PostDisk(16);
        Disks.end(disk, 1, false, 1, 2, 3);
        Disks.end(disk, 1, false);
        Disks.end(disk, 1, false, new int[40]);
        Check.outOfBounds("at(0, 0) of a row that waits", () -> disk.at(0, 0));
        disk.sync();
        int[][] outside = {
            {0, 3}, {0, -1}, {0, 40}, {0, Integer.MIN_VALUE}, {0, Integer.MAX_VALUE}, {1, 0}, {1, -1},
            {2, 40}, {2, -1}, {3, 0}, {-1, 0}, {50, 0}, {Integer.MIN_VALUE, 0}, {Integer.MAX_VALUE, 0}
        };
        for (int[] pair : outside) {
            Check.outOfBounds("at(" + pair[0] + ", " + pair[1] + ")", () -> disk.at(pair[0], pair[1]));
        }
        Check.due("at(2, 39)", disk.at(2, 39), 0);
        Check.due("at(0, 2)", disk.at(0, 2), 3);
    }

    private static void wrongRows() {
        PostDisk disk = Disks.withRows(16, 2);
        disk.poke(2, 7, 1);
        int[] any = {0, 1, -1, 40, 99, Integer.MIN_VALUE, Integer.MAX_VALUE};
        for (int i : any) {
            Check.due("at(0, " + i + ") of a wrong row", disk.at(0, i), PostDisk.NONE);
        }
        Check.due("at(1, 0)", disk.at(1, 0), 101);
        Check.outOfBounds("at(2, 0)", () -> disk.at(2, 0));
    }

    private static void whileDown() {
        PostDisk disk = Disks.takeDown(Disks.withRows(16, 1));
        Check.due("at(0, 0) while down", disk.at(0, 0), PostDisk.DOWN);
        Check.due("at(9, 9) while down", disk.at(9, 9), PostDisk.DOWN);
        Check.due("at(-1, -1) while down", disk.at(-1, -1), PostDisk.DOWN);
    }
}
