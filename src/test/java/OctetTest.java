/** Promise 14: octet. */
final class OctetTest {
    public static void main(String[] args) {
        PostDisk disk = new PostDisk(33);
        Disks.end(disk, 4, true, 200, 255, 0);
        disk.sync();
        Disks.dueSector("row", disk, 2, Disks.row(21, 1, 200, 255, 0));
        Disks.dueSector("head", disk, 1, Disks.head(1, 1, 2));
        Check.due("octet(32, 63)", disk.octet(32, 63), 0);
        int[][] outside = {
            {-1, 0}, {33, 0}, {0, -1}, {0, 64}, {33, 64}, {-1, -1}, {32, 64}, {1 << 26, 0},
            {Integer.MIN_VALUE, 0}, {Integer.MAX_VALUE, 0}, {0, Integer.MIN_VALUE}, {0, Integer.MAX_VALUE}
        };
        for (int[] pair : outside) {
            Check.outOfBounds("octet(" + pair[0] + ", " + pair[1] + ")", () -> disk.octet(pair[0], pair[1]));
        }
        Disks.takeDown(disk);
        Check.due("octet while down", disk.octet(2, 6), 200);
        Check.outOfBounds("octet(33, 0) while down", () -> disk.octet(33, 0));
        Check.end();
    }
}
