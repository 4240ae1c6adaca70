/** Disks in states that several tests begin with, and sectors written byte by byte. */
final class Disks {
    static final int[] FAR = {Integer.MIN_VALUE, -1000, -3, -2, -1, 1001, 100000, Integer.MAX_VALUE};

    /** Four bytes at the edges of a sign and of a byte. */
    static final int[] EDGES = {
        Integer.MIN_VALUE, Integer.MIN_VALUE + 1, -2, -1, 0, 1, 255, 256, Integer.MAX_VALUE - 1, Integer.MAX_VALUE
    };

    private Disks() {}

    /** Ends a row of these bytes: its number. */
    static int end(PostDisk disk, int kind, boolean event, int... bytes) {
        for (int b : bytes) {
            disk.add(b);
        }
        return disk.end(kind, event);
    }

    /** A disk with so many kept rows; row k has kind k % 10, one byte 100 + k, and is no event. */
    static PostDisk withRows(int sectors, int rows) {
        PostDisk disk = new PostDisk(sectors);
        for (int k = 0; k < rows; k++) {
            end(disk, k % 10, false, 100 + k);
        }
        disk.sync();
        return disk;
    }

    /** The same disk, with power gone at a write that changed nothing. */
    static PostDisk takeDown(PostDisk disk) {
        disk.cut(0, 0);
        disk.end(0, true);
        Check.due("the sync that takes it down", disk.sync(), PostDisk.LOST);
        return disk;
    }

    static int restart(PostDisk disk) {
        return takeDown(disk).start();
    }

    static int sum(int[] bytes) {
        int sum = 0;
        for (int i = 0; i < 60; i++) {
            sum = Integer.rotateLeft(sum ^ bytes[i], 3) * 0x85EBCA77;
        }
        return sum;
    }

    /** A whole sector's 64 bytes. */
    static int[] filled(int... bytes) {
        int[] all = java.util.Arrays.copyOf(bytes, 64);
        int sum = sum(all);
        for (int i = 0; i < 4; i++) {
            all[60 + i] = sum >>> (24 - 8 * i) & 255;
        }
        return all;
    }

    static int[] head(int generation, int greatest, int... listed) {
        int[] bytes = new int[10 + listed.length];
        bytes[0] = 200;
        four(bytes, 1, generation);
        four(bytes, 5, greatest);
        bytes[9] = listed.length;
        System.arraycopy(listed, 0, bytes, 10, listed.length);
        return filled(bytes);
    }

    static int[] row(int mark, int number, int... content) {
        int[] bytes = new int[6 + content.length];
        bytes[0] = mark;
        four(bytes, 1, number);
        bytes[5] = content.length;
        System.arraycopy(content, 0, bytes, 6, content.length);
        return filled(bytes);
    }

    private static void four(int[] bytes, int i, int four) {
        for (int j = 0; j < 4; j++) {
            bytes[i + j] = four >>> (24 - 8 * j) & 255;
        }
    }

    static void write(PostDisk disk, int sector, int[] bytes) {
        for (int i = 0; i < 64; i++) {
            disk.poke(sector, i, disk.octet(sector, i) ^ bytes[i]);
        }
    }

    static void dueSector(String what, PostDisk disk, int sector, int[] want) {
        for (int i = 0; i < 64; i++) {
            Check.due(what + ", octet(" + sector + ", " + i + ")", disk.octet(sector, i), want[i]);
        }
    }
}
