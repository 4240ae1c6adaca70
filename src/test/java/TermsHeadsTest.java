/** Terms: heads, which of them counts, and where a new one goes. */
final class TermsHeadsTest {
    private static final int[] ZEROS = new int[64];

    public static void main(String[] args) {
        Check.sentence("HEADS: sectors 0 and 1 in turn", TermsHeadsTest::inTurn);
        Check.sentence("filled with 200; a GENERATION in four bytes; the greatest number in four bytes",
                TermsHeadsTest::bytesOfAHead);
        Check.sentence("how many rows are KEPT (50 at most)", TermsHeadsTest::fiftyAtMost);
        Check.sentence("for each in the order of numbers its sector", TermsHeadsTest::orderOfNumbers);
        Check.sentence("its sector (2 .. S - 1)", TermsHeadsTest::listedSectors);
        Check.sentence("The head that is whole .. counts", TermsHeadsTest::wholeHeads);
        Check.sentence("and so", TermsHeadsTest::headsThatAreSo);
        Check.sentence("and has the greater generation", TermsHeadsTest::greaterGeneration);
        Check.sentence("one that is alone, whatever its generation", TermsHeadsTest::headAlone);
        Check.sentence("when there is none, no row is kept, the generation is 0, and the greatest number 0",
                TermsHeadsTest::noHead);
        Check.sentence("A new head has 1 more as its generation", TermsHeadsTest::oneMore);
        Check.sentence("and goes into sector 1 if that is odd, else into 0", TermsHeadsTest::oddIntoOne);
        Check.sentence("generations of four bytes wrap around", TermsHeadsTest::generationsWrap);
        Check.end();
    }

    private static void inTurn() {
        Disk disk = new Disk(16);
        for (int generation = 1; generation <= 6; generation++) {
            disk.end(0, true);
            disk.sync();
            int[] now = Disks.head(generation, generation, Disks.upFrom(2, generation));
            int[] before = Disks.head(generation - 1, generation - 1, Disks.upFrom(2, generation - 1));
            int sector = generation % 2;
            for (int i = 4; i < 10; i++) {
                Check.due("head " + generation + ", byte " + i, disk.octet(sector, i), now[i]);
                int due = generation == 1 ? 0 : before[i];
                Check.due("the one before " + generation + ", byte " + i, disk.octet(1 - sector, i), due);
            }
        }
    }

    private static void bytesOfAHead() {
        Disk disk = Disks.withRows(16, 3);
        int[] first = {200, 0, 0, 0, 1, 0, 0, 0, 3, 3, 2, 3, 4, 0};
        for (int i = 0; i < first.length; i++) {
            Check.due("byte " + i, disk.octet(1, i), first[i]);
        }
        Disk other = Disks.startedWith(16, Disks.head(0x01020304, 0x05060708, 3), ZEROS);
        Check.due("generation", other.count(2), 0x01020304);
        Check.due("greatest", other.count(3), 0x05060708);
        other.end(0, false);
        other.sync();
        Disks.dueSector("the next", other, 1, Disks.head(0x01020305, 0x05060709, 3, 2));
    }

    private static void fiftyAtMost() {
        Disk full = Disks.withEvents(64, 50);
        Check.due("the 51st", full.end(0, true), PostDisk.ROOM);
        Check.due("how many", full.octet(1, 9), 50);
        int[] fifty = Disks.upFrom(2, 50);
        Check.due("fifty", Disks.startedWith(64, Disks.head(8, 77, fifty), ZEROS).count(0), 50);
        int[] many = {51, 52, 53, 54, 128, 255};
        for (int rows : many) {
            Check.due(rows + " rows", Disks.startedWith(64, headOfMore(rows), ZEROS).count(2), 0);
        }
    }

    /** The bytes behind the fiftieth row are the sum; here they, too, could be sectors of rows. */
    private static int[] headOfMore(int rows) {
        int[] head = Disks.head(8, 77, Disks.upFrom(2, 50));
        for (int greatest = 1; !couldBeSectors(head); greatest++) {
            head = Disks.withByte(Disks.head(8, greatest, Disks.upFrom(2, 50)), 9, rows);
        }
        return head;
    }

    private static boolean couldBeSectors(int[] head) {
        boolean all = head[9] > 50;
        for (int i = 60; i < 64; i++) {
            all = all && head[i] >= 2 && head[i] < 64;
        }
        return all;
    }

    private static void orderOfNumbers() {
        Disk disk = new Disk(16);
        disk.end(0, false);
        disk.end(0, false);
        disk.end(0, true);
        disk.sync();
        disk.drop(3);
        disk.end(0, false);
        disk.end(0, true);
        disk.sync();
        Disks.dueSector("later rows in lesser sectors", disk, 1, Disks.head(3, 5, 4, 2, 3));
        Disks.dueNumbers("as kept", disk, 3, 4, 5);
        Check.due("restart", Disks.restart(disk), 3);
        Disks.dueNumbers("as read", disk, 3, 4, 5);
    }

    private static void listedSectors() {
        int[] sizes = {16, 17, 63, 64};
        for (int sectors : sizes) {
            dueListed(sectors, 2, true);
            dueListed(sectors, sectors - 1, true);
            dueListed(sectors, 0, false);
            dueListed(sectors, 1, false);
            dueListed(sectors, sectors, false);
            dueListed(sectors, 128, false);
            dueListed(sectors, 255, false);
        }
    }

    private static void dueListed(int sectors, int listed, boolean counts) {
        String what = "S " + sectors + ", sector " + listed + " listed";
        Check.due(what, Disks.startedWith(sectors, Disks.head(8, 77, 5, listed), ZEROS).count(0), counts ? 2 : 0);
        Check.due(what, Disks.startedWith(sectors, Disks.head(8, 77, listed, 5), ZEROS).count(0), counts ? 2 : 0);
    }

    private static void wholeHeads() {
        for (int i = 0; i < 64; i++) {
            int[] altered = Disks.head(8, 77, 2, 3);
            altered[i] ^= 1;
            Disk disk = Disks.startedWith(16, altered, Disks.head(7, 70, 4));
            Check.due("byte " + i + " altered, the other counts", disk.count(2), 7);
            Check.due("its row", disk.row(0, 4), 4);
        }
    }

    private static void headsThatAreSo() {
        dueEven("as it should be", Disks.head(8, 77, 2, 15), true);
        dueEven("without rows", Disks.head(8, 77), true);
        int[] marks = {1, 17, 199, 201, 255};
        for (int mark : marks) {
            dueEven("first byte " + mark, Disks.withByte(Disks.head(8, 77, 2), 0, mark), false);
        }
        dueEven("51 rows", Disks.withByte(Disks.head(8, 77, Disks.bytes(50, 3)), 9, 51), false);
        dueEven("a sector that is none of rows", Disks.head(8, 77, 1), false);
        dueEven("a sector that is not there", Disks.head(8, 77, 16), false);
        dueEven("a row", Disks.row(3, 8, 1, 2), false);
    }

    /** Beside it stands a head of a lesser generation, which counts if the first does not. */
    private static void dueEven(String what, int[] even, boolean counts) {
        Disk disk = Disks.startedWith(16, even, Disks.head(7, 70, 4, 5, 6));
        Check.due("generation, " + what, disk.count(2), counts ? 8 : 7);
        Check.due("greatest, " + what, disk.count(3), counts ? 77 : 70);
        Check.due("kept, " + what, disk.count(0), counts ? even[9] : 3);
    }

    /** As count(2) answers it: with its sign. */
    private static void greaterGeneration() {
        for (int even : Disks.EDGES) {
            for (int odd : Disks.EDGES) {
                if (even != odd) {
                    Disk disk = Disks.startedWith(16, Disks.head(even, 9, 3, 4), Disks.head(odd, 8, 3, 4, 5));
                    String heads = "heads " + even + " and " + odd;
                    Check.due("kept, " + heads, disk.count(0), even > odd ? 2 : 3);
                    Check.due("generation, " + heads, disk.count(2), Math.max(even, odd));
                    Check.due("greatest, " + heads, disk.count(3), even > odd ? 9 : 8);
                }
            }
        }
    }

    private static void headAlone() {
        for (int generation : Disks.EDGES) {
            int[] head = Disks.head(generation, 9, 3, 4);
            dueAlone("even, generation " + generation, Disks.startedWith(16, head, ZEROS), generation);
            dueAlone("odd, generation " + generation, Disks.startedWith(16, ZEROS, head), generation);
        }
    }

    private static void dueAlone(String what, Disk disk, int generation) {
        Check.due("kept, " + what, disk.count(0), 2);
        Check.due("generation, " + what, disk.count(2), generation);
        Check.due("greatest, " + what, disk.count(3), 9);
    }

    private static void noHead() {
        dueNone("no head was written", Disks.startedWith(16, ZEROS, ZEROS));
        int[] altered = Disks.head(8, 77, 2, 3);
        altered[60] ^= 1;
        dueNone("both altered", Disks.startedWith(16, altered, altered));
        dueNone("none is so", Disks.startedWith(16, Disks.row(1, 1), Disks.head(8, 77, 1)));
        Disk held = Disks.withRows(16, 3);
        held.drop(2);
        Disks.takeDown(held);
        held.poke(0, 0, 200);
        held.poke(1, 0, 200);
        held.start();
        dueNone("what was held before is gone", held);
    }

    private static void dueNone(String what, Disk disk) {
        Check.due("kept, " + what, disk.count(0), 0);
        Check.due("generation, " + what, disk.count(2), 0);
        Check.due("greatest, " + what, disk.count(3), 0);
        Check.due("no row, " + what, disk.row(0, 4), PostDisk.NONE);
        Check.due("the next number, " + what, disk.end(0, false), 1);
        Check.due("sync, " + what, disk.sync(), 1);
        Disks.dueSector("the head then, " + what, disk, 1, Disks.head(1, 1, 2));
    }

    private static void oneMore() {
        Disk disk = Disks.withRows(16, 4);
        Check.due("the first", disk.count(2), 1);
        disk.sync();
        disk.drop(1);
        disk.merge(100);
        Check.due("nothing was written", disk.count(2), 1);
        disk.drop(3);
        Check.due("behind a drop", disk.count(2), 2);
        disk.merge(1);
        Check.due("behind a move", disk.count(2), 3);
        disk.merge(100);
        Check.due("behind another", disk.count(2), 4);
        disk.end(0, false);
        disk.end(0, false);
        disk.sync();
        Check.due("behind a sync of two", disk.count(2), 5);
        disk.end(0, false);
        disk.cut(1, 60);
        disk.sync();
        disk.start();
        Check.due("behind one that was torn", disk.count(2), 5);
    }

    private static void oddIntoOne() {
        for (int generation : Disks.EDGES) {
            int[] held = Disks.head(generation, 9, 3, 4);
            for (int sector = 0; sector < 2; sector++) {
                Disk disk = Disks.startedWith(16, sector == 0 ? held : ZEROS, sector == 1 ? held : ZEROS);
                disk.end(0, false);
                Check.due("sync", disk.sync(), 1);
                int[] next = Disks.head(generation + 1, 10, 3, 4, 2);
                int due = generation % 2 == 0 ? 1 : 0;
                String what = "behind " + generation + " in sector " + sector;
                Disks.dueSector(what, disk, due, next);
                Disks.dueSector(what + ", the other", disk, 1 - due, due == sector ? ZEROS : held);
            }
        }
    }

    private static void generationsWrap() {
        Disk disk = Disks.startedWith(16, ZEROS, Disks.head(Integer.MAX_VALUE, 9, 3));
        disk.end(0, false);
        Check.due("sync", disk.sync(), 1);
        Check.due("generation", disk.count(2), Integer.MIN_VALUE);
        Disks.dueSector("it is even", disk, 0, Disks.head(Integer.MIN_VALUE, 10, 3, 2));
        disk = Disks.startedWith(16, ZEROS, Disks.head(-1, 9, 3));
        disk.end(0, false);
        Check.due("sync", disk.sync(), 1);
        Check.due("generation behind -1", disk.count(2), 0);
        Disks.dueSector("0 is even", disk, 0, Disks.head(0, 10, 3, 2));
    }
}
