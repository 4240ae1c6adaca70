import java.util.Arrays;

/** Disks in states that several tests begin with, and sectors written byte by byte. */
final class Disks {
    /** Four bytes at the edges of a sign and of a byte. */
    static final int[] EDGES = {
        Integer.MIN_VALUE, Integer.MIN_VALUE + 1, -2, -1, 0, 1, 255, 256, Integer.MAX_VALUE - 1, Integer.MAX_VALUE
    };

    private Disks() {}

    /** Ends a row of these bytes: its number. */
    static int end(Disk disk, int kind, boolean event, int... bytes) {
        for (int b : bytes) {
            disk.add(b);
        }
        return disk.end(kind, event);
    }

    /** A disk with so many kept rows; row k has kind k % 10, one byte 100 + k, and is no event. */
    static Disk withRows(int sectors, int rows) {
        Disk disk = new Disk(sectors);
        for (int k = 0; k < rows; k++) {
            end(disk, k % 10, false, 100 + k);
        }
        disk.sync();
        return disk;
    }

    /** A disk with so many kept rows of no bytes, all events. */
    static Disk withEvents(int sectors, int rows) {
        Disk disk = new Disk(sectors);
        for (int k = 0; k < rows; k++) {
            disk.end(k % 10, true);
        }
        disk.sync();
        return disk;
    }

    static int mostRows(int sectors) {
        return Math.min(sectors - 2, 50);
    }

    /** Power gone at a write that changed nothing; the disk needs room for an event. */
    static Disk takeDown(Disk disk) {
        disk.cut(0, 0);
        disk.end(0, true);
        Check.due("the sync that takes it down", disk.sync(), PostDisk.LOST);
        return disk;
    }

    static int restart(Disk disk) {
        return takeDown(disk).start();
    }

    /** What start() finds when sectors 0 and 1 hold these bytes, on a disk of so many sectors. */
    static Disk startedWith(int sectors, int[] even, int[] odd) {
        Disk disk = takeDown(new Disk(sectors));
        write(disk, 0, even);
        write(disk, 1, odd);
        disk.start();
        return disk;
    }

    static int sum(int[] bytes) {
        int sum = 0;
        for (int i = 0; i < 60; i++) {
            sum = Integer.rotateLeft(sum ^ bytes[i], 3) * 0x85EBCA77;
        }
        return sum;
    }

    /** A sector's 64 bytes: these, zeros, and their sum. */
    static int[] filled(int... bytes) {
        int[] all = Arrays.copyOf(bytes, 64);
        four(all, 60, sum(all));
        return all;
    }

    /** The same sector with another byte, and its sum mended. */
    static int[] withByte(int[] sector, int i, int b) {
        int[] bytes = Arrays.copyOf(sector, 60);
        bytes[i] = b;
        return filled(bytes);
    }

    static int[] head(int generation, int greatest, int... listed) {
        int[] bytes = new int[10 + listed.length];
        bytes[0] = 200;
        four(bytes, 1, generation);
        four(bytes, 5, greatest);
        bytes[9] = listed.length;
        System.arraycopy(listed, 0, bytes, 10, listed.length);
        return filled(bytes);
    }

    static int[] row(int mark, int number, int... content) {
        int[] bytes = new int[6 + content.length];
        bytes[0] = mark;
        four(bytes, 1, number);
        bytes[5] = content.length;
        System.arraycopy(content, 0, bytes, 6, content.length);
        return filled(bytes);
    }

    private static void four(int[] bytes, int i, int four) {
        for (int j = 0; j < 4; j++) {
            bytes[i + j] = four >>> (24 - 8 * j) & 255;
        }
    }

    /** The numbers from one on, so many. */
    static int[] upFrom(int first, int many) {
        int[] all = new int[many];
        for (int i = 0; i < many; i++) {
            all[i] = first + i;
        }
        return all;
    }

    /** So many times the same byte. */
    static int[] bytes(int many, int b) {
        int[] all = new int[many];
        Arrays.fill(all, b);
        return all;
    }

    static void write(Disk disk, int sector, int[] bytes) {
        for (int i = 0; i < 64; i++) {
            int mask = disk.octet(sector, i) ^ bytes[i];
            if (mask != 0) {
                disk.poke(sector, i, mask);
            }
        }
    }

    static void dueSector(String what, Disk disk, int sector, int[] want) {
        for (int i = 0; i < 64; i++) {
            Check.due(what + ", octet(" + sector + ", " + i + ")", disk.octet(sector, i), want[i]);
        }
    }

    static void dueSectorsOfRows(String what, Disk disk, int... sectors) {
        Check.due(what + ", kept", disk.count(0), sectors.length);
        for (int k = 0; k < sectors.length; k++) {
            Check.due(what + ", sector of row " + k, disk.row(k, 4), sectors[k]);
        }
    }

    static void dueNumbers(String what, Disk disk, int... numbers) {
        Check.due(what + ", kept", disk.count(0), numbers.length);
        for (int k = 0; k < numbers.length; k++) {
            Check.due(what + ", number of row " + k, disk.row(k, 0), numbers[k]);
        }
    }

    /** What the calls that change nothing answer, and the bytes of the first sectors. */
    static String told(Disk disk, int sectors) {
        StringBuilder text = new StringBuilder("writes " + disk.writes() + ", counts");
        for (int what = 0; what < 5; what++) {
            text.append(' ').append(disk.count(what));
        }
        int kept = disk.count(0);
        for (int k = 0; k < kept; k++) {
            text.append(", row");
            for (int what = 0; what < 5; what++) {
                text.append(' ').append(disk.row(k, what));
            }
        }
        text.append(", wrong ").append(disk.wrong(0)).append(' ').append(disk.wrong(1));
        for (int sector = 0; sector < sectors; sector++) {
            text.append(", sector");
            for (int i = 0; i < 64; i++) {
                text.append(' ').append(disk.octet(sector, i));
            }
        }
        return text.toString();
    }
}
