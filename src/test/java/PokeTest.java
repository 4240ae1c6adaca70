/** Promise 13: poke. */
final class PokeTest {
    public static void main(String[] args) {
        xorsTheLowestByte();
        outOfBounds();
        whileDown();
        Check.end();
    }

    private static void xorsTheLowestByte() {
        PostDisk disk = new PostDisk(16);
        int[][] pairs = {
            {0, 0}, {1, 1}, {255, 254}, {256, 254}, {257, 255}, {-1, 0}, {Integer.MIN_VALUE, 0},
            {Integer.MAX_VALUE, 255}, {0x1280, 127}
        };
        for (int[] pair : pairs) {
            Check.due("poke(15, 63, " + pair[0] + ")", disk.poke(15, 63, pair[0]), pair[1]);
            Check.due("octet(15, 63)", disk.octet(15, 63), pair[1]);
        }
        Check.due("the byte before", disk.octet(15, 62), 0);
        Check.due("poke(0, 0, 7)", disk.poke(0, 0, 7), 7);
        Check.due("writes", disk.writes(), 0);
    }

    private static void outOfBounds() {
        PostDisk disk = new PostDisk(20);
        int[][] outside = {
            {-1, 0}, {20, 0}, {64, 0}, {0, -1}, {0, 64}, {-1, 64}, {19, 64}, {20, -1},
            {Integer.MIN_VALUE, 0}, {Integer.MAX_VALUE, 0}, {0, Integer.MIN_VALUE}, {0, Integer.MAX_VALUE},
            {1 << 26, 0}, {0x4000000, 63}
        };
        for (int[] pair : outside) {
            String call = "poke(" + pair[0] + ", " + pair[1] + ", 1)";
            Check.outOfBounds(call, () -> disk.poke(pair[0], pair[1], 1));
        }
        Check.due("poke(19, 63, 1)", disk.poke(19, 63, 1), 1);
        Check.due("octet(0, 0)", disk.octet(0, 0), 0);
        Check.due("octet(1, 0)", disk.octet(1, 0), 0);
    }

    private static void whileDown() {
        PostDisk disk = Disks.takeDown(Disks.withRows(16, 2));
        Check.due("poke while down", disk.poke(2, 0, 16), 17);
        Check.outOfBounds("poke(16, 0, 0) while down", () -> disk.poke(16, 0, 0));
        disk.start();
        Check.due("wrong(1)", disk.wrong(1), 0);
    }
}
