/** Terms: the disk, the sum, sectors that are whole, sectors that are filled, writes. */
final class TermsDiskTest {
    public static void main(String[] args) {
        Check.sentence("THE DISK has S SECTORS of 64 bytes", TermsDiskTest::sectorsOf64Bytes);
        Check.sentence("at first all 0", TermsDiskTest::allZero);
        Check.sentence("THE SUM of bytes is a number s of 32 bits, at first 0; .. (wrapping)", TermsDiskTest::sums);
        Check.sentence("WHOLE when its first byte is not 0", TermsDiskTest::firstByteZero);
        Check.sentence("and its last four bytes are the sum of the sixty before", TermsDiskTest::alteredBits);
        Check.sentence("(highest first)", TermsDiskTest::sumHighestFirst);
        Check.sentence("FILLED with at most sixty bytes", TermsDiskTest::sixtyBytes);
        Check.sentence("zeros behind them, and their sum", TermsDiskTest::zerosBehind);
        Check.sentence("WRITES of sectors are counted", TermsDiskTest::writesAreCounted);
        Check.end();
    }

    private static void sectorsOf64Bytes() {
        for (int s = 16; s <= 64; s++) {
            int sectors = s;
            Disk disk = new Disk(sectors);
            Check.due("S " + s + ", the last byte of the last sector", disk.poke(s - 1, 63, 5), 5);
            Check.due("S " + s + ", the first byte of the first sector", disk.poke(0, 0, 6), 6);
            Check.due("S " + s + ", the last byte of the first sector", disk.poke(0, 63, 7), 7);
            Check.due("S " + s + ", the byte behind is another's", disk.octet(1, 0), 0);
            Check.outOfBounds("S " + s + ", octet(S, 0)", () -> disk.octet(sectors, 0));
            Check.outOfBounds("S " + s + ", octet(-1, 63)", () -> disk.octet(-1, 63));
            Check.outOfBounds("S " + s + ", octet(S - 1, 64)", () -> disk.octet(sectors - 1, 64));
            Check.outOfBounds("S " + s + ", octet(1, -1)", () -> disk.octet(1, -1));
        }
    }

    private static void allZero() {
        int[] sizes = {16, 17, 63, 64};
        for (int sectors : sizes) {
            // eight sectors have 512 bytes: as many as one object may be asked for
            for (int first = 0; first < sectors; first += 8) {
                Disk disk = new Disk(sectors);
                for (int sector = first; sector < Math.min(first + 8, sectors); sector++) {
                    Disks.dueSector("S " + sectors, disk, sector, new int[64]);
                }
            }
        }
    }

    /** By the words, on longs: no answer of this may lean on what Java's int does. */
    private static long slowSum(int[] bytes) {
        long bits = 0xFFFFFFFFL;
        long s = 0;
        for (int i = 0; i < 60; i++) {
            long mixed = s ^ bytes[i];
            long turned = mixed << 3 & bits | mixed >> 29;
            s = turned * 0x85EBCA77L & bits;
        }
        return s;
    }

    private static void sums() {
        int[][] contents = {
            {}, {1, 2, 255}, {0}, {255}, {128}, Disks.bytes(40, 0), Disks.bytes(40, 255), Disks.bytes(40, 128),
            Disks.bytes(40, 127), Disks.upFrom(216, 40)
        };
        for (int[] content : contents) {
            Disk disk = new Disk(16);
            Disks.end(disk, 3, false, content);
            disk.sync();
            for (int sector = 1; sector <= 2; sector++) {
                int[] bytes = new int[64];
                for (int i = 0; i < 64; i++) {
                    bytes[i] = disk.octet(sector, i);
                }
                long got = (bytes[60] * 256L + bytes[61]) * 65536L + bytes[62] * 256L + bytes[63];
                Check.due("sum of " + content.length + " bytes in sector " + sector, got, slowSum(bytes));
            }
        }
        Disk disk = new Disk(20);
        Disks.end(disk, 3, false, 1, 2, 255);
        disk.sync();
        int[] due = {52, 127, 233, 230};
        for (int i = 0; i < 4; i++) {
            Check.due("byte " + i + " of a sum that is known", disk.octet(2, 60 + i), due[i]);
        }
    }

    private static void firstByteZero() {
        Disk disk = Disks.withRows(16, 2);
        Disks.write(disk, 2, new int[64]);
        Check.due("sixty zeros have the sum 0, and are not whole", disk.wrong(0), 1);
        Disks.write(disk, 2, Disks.row(0, 1, 100));
        Check.due("first byte 0 before others and their sum", disk.wrong(0), 1);
        Disks.write(disk, 2, Disks.row(1, 1, 100));
        Check.due("first byte 1", disk.wrong(0), 0);
        Disk heads = Disks.startedWith(16, new int[64], Disks.withByte(Disks.head(9, 9, 2), 0, 0));
        Check.due("a head with first byte 0", heads.count(2), 0);
    }

    /** Each bit of a row's sector and of a head's: one that is altered is told. */
    private static void alteredBits() {
        for (int i = 0; i < 64; i++) {
            Disk disk = Disks.withRows(16, 1);
            for (int bit = 0; bit < 8; bit++) {
                disk.poke(2, i, 1 << bit);
                Check.due("byte " + i + " bit " + bit + " of a row", disk.wrong(0), 1);
                disk.poke(2, i, 1 << bit);
                Check.due("byte " + i + " bit " + bit + " mended", disk.wrong(0), 0);
                disk.poke(1, i, 1 << bit);
                Check.due("byte " + i + " bit " + bit + " of a head", Disks.restart(disk), 0);
                disk.poke(1, i, 1 << bit);
                Check.due("byte " + i + " bit " + bit + " of a head mended", Disks.restart(disk), 1);
            }
        }
    }

    private static void sumHighestFirst() {
        int[] right = Disks.row(1, 1, 100);
        int[] turned = right.clone();
        for (int i = 0; i < 4; i++) {
            turned[60 + i] = right[63 - i];
        }
        Disk disk = Disks.withRows(16, 1);
        Disks.dueSector("as written", disk, 2, right);
        Disks.write(disk, 2, turned);
        Check.due("a sum with its lowest byte first", disk.wrong(0), 1);
    }

    private static void sixtyBytes() {
        Disk disk = Disks.withEvents(64, 50);
        int[] sixty = new int[60];
        int[] before = {200, 0, 0, 0, 1, 0, 0, 0, 50, 50};
        System.arraycopy(before, 0, sixty, 0, 10);
        System.arraycopy(Disks.upFrom(2, 50), 0, sixty, 10, 50);
        Disks.dueSector("a head of fifty rows", disk, 1, Disks.filled(sixty));
    }

    private static void zerosBehind() {
        Disk disk = new Disk(16);
        Disks.end(disk, 9, false, Disks.bytes(40, 255));
        for (int i = 0; i < 9; i++) {
            disk.end(9, false);
        }
        disk.sync();
        Disks.dueSector("forty bytes, zeros", disk, 2, Disks.row(10, 1, Disks.bytes(40, 255)));
        Disks.dueSector("no bytes behind a row of forty", disk, 3, Disks.row(10, 2));
        Check.due("drop", disk.drop(100), 10);
        disk.end(0, false);
        disk.sync();
        Disks.dueSector("a short row over a long one", disk, 2, Disks.row(1, 11));
        Disks.dueSector("a short head over a long one", disk, 1, Disks.head(3, 11, 2));
        Check.due("byte 11 of that head", disk.octet(1, 11), 0);
    }

    private static void writesAreCounted() {
        Disk disk = new Disk(16);
        Check.due("at first", disk.writes(), 0);
        disk.end(0, false);
        disk.end(0, false);
        disk.sync();
        Check.due("two rows and a head", disk.writes(), 3);
        disk.drop(2);
        Check.due("a head alone", disk.writes(), 4);
        disk.merge(1);
        Check.due("a moved row and a head", disk.writes(), 6);
        disk.poke(5, 5, 5);
        Check.due("a poke is none", disk.writes(), 6);
    }
}
