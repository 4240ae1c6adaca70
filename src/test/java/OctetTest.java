/** Promise 14: octet. */
final class OctetTest {
    public static void main(String[] args) {
        Check.sentence("Byte i of a sector, 0 .. 255", OctetTest::bytes);
        Check.sentence("while it is down, too", OctetTest::whileDown);
        Check.sentence("ArrayIndexOutOfBoundsException", OctetTest::outOfBounds);
        Check.end();
    }

    private static void bytes() {
        Disk disk = new Disk(33);
        Disks.end(disk, 4, true, 200, 255, 0, 128, 127);
        disk.sync();
        Disks.dueSector("row", disk, 2, Disks.row(21, 1, 200, 255, 0, 128, 127));
        Disks.dueSector("head", disk, 1, Disks.head(1, 1, 2));
        Check.due("octet(32, 63)", disk.octet(32, 63), 0);
        for (int b = 0; b < 256; b += 51) {
            disk.poke(32, 63, b ^ disk.octet(32, 63));
            Check.due("octet(32, 63)", disk.octet(32, 63), b);
        }
    }

    private static void whileDown() {
        Disk disk = Disks.takeDown(Disks.withRows(33, 1));
        Check.due("octet(2, 6)", disk.octet(2, 6), 100);
        Check.outOfBounds("octet(33, 0)", () -> disk.octet(33, 0));
        Check.outOfBounds("octet(0, -1)", () -> disk.octet(0, -1));
    }

    private static void outOfBounds() {
        Disk disk = new Disk(33);
        int[][] outside = {
            {-1, 0}, {33, 0}, {34, 0}, {0, -1}, {0, 64}, {33, 64}, {-1, -1}, {-1, 64}, {32, 64}, {1 << 26, 0},
            {Integer.MIN_VALUE, 0}, {Integer.MAX_VALUE, 0}, {0, Integer.MIN_VALUE}, {0, Integer.MAX_VALUE}
        };
        for (int[] pair : outside) {
            Check.outOfBounds("octet(" + pair[0] + ", " + pair[1] + ")", () -> disk.octet(pair[0], pair[1]));
        }
        Check.due("octet(32, 63)", disk.octet(32, 63), 0);
        Check.due("octet(0, 0)", disk.octet(0, 0), 0);
    }
}
