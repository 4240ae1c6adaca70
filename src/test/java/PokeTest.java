/** Promise 13: poke. */
final class PokeTest {
    public static void main(String[] args) {
        Check.sentence("Byte i of a sector is xored with the lowest byte of a mask", PokeTest::lowestByte);
        Check.sentence("that byte alone", PokeTest::thatByteAlone);
        Check.sentence("what it is then, 0 .. 255", PokeTest::whatItIsThen);
        Check.sentence("it is no write", PokeTest::noWrite);
        Check.sentence("while it is down, too", PokeTest::whileDown);
        Check.sentence("ArrayIndexOutOfBoundsException", PokeTest::outOfBounds);
        Check.end();
    }

    private static void lowestByte() {
        Disk disk = new Disk(16);
        int[][] pairs = {
            {0, 0}, {1, 1}, {255, 254}, {256, 254}, {257, 255}, {-1, 0}, {Integer.MIN_VALUE, 0},
            {Integer.MAX_VALUE, 255}, {0x1280, 127}, {-256, 127}, {-129, 0}
        };
        for (int[] pair : pairs) {
            Check.due("poke(15, 63, " + pair[0] + ")", disk.poke(15, 63, pair[0]), pair[1]);
            Check.due("octet(15, 63)", disk.octet(15, 63), pair[1]);
        }
    }

    private static void thatByteAlone() {
        int[][] places = {{0, 0}, {0, 63}, {1, 0}, {15, 0}, {15, 63}};
        for (int[] place : places) {
            Disk disk = new Disk(16);
            disk.poke(place[0], place[1], 255);
            int[] due = new int[64];
            due[place[1]] = 255;
            for (int sector = Math.max(0, place[0] - 1); sector <= Math.min(15, place[0] + 1); sector++) {
                Disks.dueSector("poked", disk, sector, sector == place[0] ? due : new int[64]);
            }
        }
    }

    private static void whatItIsThen() {
        Disk disk = new Disk(16);
        int now = 0;
        for (int mask = 0; mask < 256; mask++) {
            now ^= mask;
            Check.due("poke(3, 3, " + mask + ")", disk.poke(3, 3, mask), now);
        }
    }

    private static void noWrite() {
        Disk disk = Disks.withRows(16, 1);
        disk.cut(0, 0);
        Check.due("poke(5, 5, 5)", disk.poke(5, 5, 5), 5);
        Check.due("writes", disk.writes(), 2);
        Check.due("power stays", disk.count(0), 1);
    }

    private static void whileDown() {
        Disk disk = Disks.takeDown(Disks.withRows(16, 2));
        Check.due("poke(2, 0, 16)", disk.poke(2, 0, 16), 17);
        Check.outOfBounds("poke(16, 0, 0)", () -> disk.poke(16, 0, 0));
        disk.start();
        Check.due("wrong(1)", disk.wrong(1), 0);
    }

    private static void outOfBounds() {
        Disk disk = new Disk(20);
        int[][] outside = {
            {-1, 0}, {20, 0}, {21, 0}, {64, 0}, {0, -1}, {0, 64}, {-1, 64}, {19, 64}, {20, -1}, {-1, -1}, {20, 64},
            {Integer.MIN_VALUE, 0}, {Integer.MAX_VALUE, 0}, {0, Integer.MIN_VALUE}, {0, Integer.MAX_VALUE},
            {1 << 26, 0}, {1 << 26, 63}
        };
        for (int[] pair : outside) {
            String call = "poke(" + pair[0] + ", " + pair[1] + ", 1)";
            Check.outOfBounds(call, () -> disk.poke(pair[0], pair[1], 1));
        }
        Check.due("poke(19, 63, 1)", disk.poke(19, 63, 1), 1);
        Check.due("octet(0, 0)", disk.octet(0, 0), 0);
        Check.due("octet(1, 0)", disk.octet(1, 0), 0);
        Disk most = new Disk(64);
        Check.due("poke(63, 63, 1)", most.poke(63, 63, 1), 1);
        Check.outOfBounds("poke(64, 0, 1)", () -> most.poke(64, 0, 1));
    }
}
