/** Terms: a move, and a drop. */
final class TermsMoveTest {
    public static void main(String[] args) {
        Check.sentence("A MOVE brings kept rows together: the last one by its sector", TermsMoveTest::lastBySector);
        Check.sentence("if there is a lesser sector from 2 on in no kept row", TermsMoveTest::noLesserSector);
        Check.sentence("its 64 bytes, as they are", TermsMoveTest::asTheyAre);
        Check.sentence("are written into the least such sector", TermsMoveTest::leastSector);
        Check.sentence("then the head", TermsMoveTest::thenTheHead);
        Check.sentence("A DROP leaves out kept rows with a number below one", TermsMoveTest::numberBelow);
        Check.sentence("a number has the sign that row() answers", TermsMoveTest::numbersWithSign);
        Check.sentence("that are neither events", TermsMoveTest::eventsStay);
        Check.sentence("nor WRONG", TermsMoveTest::wrongRowsStay);
        Check.sentence("(the head is written alone)", TermsMoveTest::headAlone);
        Check.end();
    }

    /** Rows 1 .. 10 in sectors 2 .. 11, events 11 .. 14 in 12 .. 15; the rows are dropped. */
    private static Disk eventsAtTheEnd() {
        Disk disk = Disks.withRows(16, 10);
        for (int i = 0; i < 4; i++) {
            Disks.end(disk, i, true, 60 + i);
        }
        disk.sync();
        Check.due("drop", disk.drop(100), 10);
        return disk;
    }

    private static void lastBySector() {
        Disk disk = eventsAtTheEnd();
        Disks.dueSectorsOfRows("before", disk, 12, 13, 14, 15);
        disk.merge(1);
        Disks.dueSectorsOfRows("from sector S - 1", disk, 12, 13, 14, 2);
        disk.merge(1);
        Disks.dueSectorsOfRows("from S - 2", disk, 12, 13, 3, 2);
        disk.end(0, false);
        disk.sync();
        disk.merge(1);
        Disks.dueSectorsOfRows("not the last by its number", disk, 12, 5, 3, 2, 4);
        disk.merge(1);
        Disks.dueSectorsOfRows("the first row", disk, 6, 5, 3, 2, 4);
        Disks.dueNumbers("numbers", disk, 11, 12, 13, 14, 15);
    }

    private static void noLesserSector() {
        Check.due("no row is kept", new Disk(16).merge(1), 0);
        Check.due("one row in sector 2", Disks.withRows(16, 1).merge(1), 0);
        Check.due("fifty rows without a gap", Disks.withEvents(64, 50).merge(100), 0);
        Disk full = Disks.withEvents(16, 14);
        Check.due("all sectors are in rows", full.merge(100), 0);
        Check.due("nothing was written", full.writes(), 15);
        Check.due("the last of fifty rows in a lesser sector", lastInALesserSector().merge(100), 0);
        Disk disk = Disks.withRows(16, 2);
        disk.drop(2);
        Check.due("one row in sector 3", disk.merge(1), 1);
        Check.due("then in sector 2", disk.merge(1), 0);
    }

    /** Fifty rows in sectors 2 .. 51; the first of them was dropped, so the last is in sector 2. */
    private static Disk lastInALesserSector() {
        Disk disk = new Disk(64);
        for (int number = 1; number <= 50; number++) {
            disk.end(0, number > 1);
        }
        disk.sync();
        disk.drop(2);
        Check.due("end", disk.end(0, true), 51);
        disk.sync();
        Check.due("its sector", disk.row(49, 4), 2);
        return disk;
    }

    private static void asTheyAre() {
        Disk disk = eventsAtTheEnd();
        disk.poke(15, 0, 255);
        disk.poke(15, 63, 1);
        disk.poke(14, 5, 128);
        int[] first = Disks.row(20, 14, 63);
        first[0] ^= 255;
        first[63] ^= 1;
        int[] second = Disks.row(19, 13, 62);
        second[5] ^= 128;
        Check.due("moves of wrong rows", disk.merge(2), 2);
        Disks.dueSector("the first", disk, 2, first);
        Disks.dueSector("the second", disk, 3, second);
        Check.due("they are still wrong", disk.wrong(0), 2);
        Disks.dueSector("where it was", disk, 15, first);
    }

    private static void leastSector() {
        Disk disk = Disks.withRows(16, 8);
        disk.poke(3, 7, 1);
        disk.drop(6);
        Disks.dueSectorsOfRows("before", disk, 3, 7, 8, 9);
        Check.due("first move", disk.merge(1), 1);
        Disks.dueSectorsOfRows("into 2", disk, 3, 7, 8, 2);
        Check.due("second move", disk.merge(1), 1);
        Disks.dueSectorsOfRows("into 4: sector 3 is in a row, though wrong", disk, 3, 7, 4, 2);
        Check.due("third move", disk.merge(1), 1);
        Disks.dueSectorsOfRows("into 5", disk, 3, 5, 4, 2);
        Check.due("no more", disk.merge(1), 0);
    }

    private static void thenTheHead() {
        Disk disk = eventsAtTheEnd();
        disk.cut(1, 0);
        Check.due("merge, power goes at the head", disk.merge(1), PostDisk.LOST);
        Disks.dueSector("the row was written before", disk, 2, Disks.row(20, 14, 63));
        disk.start();
        Disks.dueSectorsOfRows("not moved without the head", disk, 12, 13, 14, 15);
        Check.due("merge", disk.merge(1), 1);
        Disks.dueSector("the head", disk, 0, Disks.head(4, 14, 12, 13, 14, 2));
        Check.due("restart", Disks.restart(disk), 4);
        Disks.dueSectorsOfRows("moved with it", disk, 12, 13, 14, 2);
    }

    private static void numberBelow() {
        int[] none = {Integer.MIN_VALUE, -1, 0, 1};
        for (int before : none) {
            Check.due("drop(" + before + ")", Disks.withRows(16, 4).drop(before), 0);
        }
        for (int before = 2; before <= 5; before++) {
            Disk disk = Disks.withRows(16, 4);
            Check.due("drop(" + before + ")", disk.drop(before), before - 1);
            Disks.dueNumbers("drop(" + before + ")", disk, Disks.upFrom(before, 5 - before));
        }
        Check.due("drop(6)", Disks.withRows(16, 4).drop(6), 4);
        Check.due("drop(MAX)", Disks.withRows(16, 4).drop(Integer.MAX_VALUE), 4);
    }

    /** Every pair of these: a row leaves when its number, as row() answers it, is below the other. */
    private static void numbersWithSign() {
        for (int number : Disks.EDGES) {
            for (int before : Disks.EDGES) {
                Disk disk = Disks.withRows(16, 1);
                Disks.write(disk, 2, Disks.row(1, number));
                Check.due("number " + number, disk.row(0, 0), number);
                int left = number < before ? 1 : 0;
                Check.due("number " + number + ", drop(" + before + ")", disk.drop(before), left);
                Check.due("kept then", disk.count(0), 1 - left);
            }
        }
    }

    private static void eventsStay() {
        Disk disk = new Disk(24);
        for (int kind = 0; kind <= 9; kind++) {
            disk.end(kind, true);
        }
        disk.end(9, false);
        disk.end(0, false);
        disk.sync();
        Check.due("drop", disk.drop(Integer.MAX_VALUE), 2);
        Disks.dueNumbers("events of all kinds", disk, Disks.upFrom(1, 10));
        Check.due("drop again", disk.drop(Integer.MAX_VALUE), 0);
    }

    private static void wrongRowsStay() {
        Disk disk = Disks.withRows(16, 4);
        disk.poke(3, 6, 1);
        disk.poke(5, 63, 128);
        Check.due("drop", disk.drop(100), 2);
        Disks.dueSectorsOfRows("the wrong ones", disk, 3, 5);
        disk.poke(3, 6, 1);
        Check.due("drop when one is mended", disk.drop(100), 1);
        Disks.dueSectorsOfRows("the other", disk, 5);
        Disks.write(disk, 5, Disks.row(11, 4, 1));
        Check.due("a whole sector that is not a row's", disk.drop(100), 0);
        Disks.write(disk, 5, Disks.row(1, 4, new int[41]));
        Check.due("one with 41 bytes", disk.drop(100), 0);
        Disks.write(disk, 5, Disks.row(10, 4, new int[40]));
        Check.due("one with 40", disk.drop(100), 1);
    }

    private static void headAlone() {
        Disk disk = Disks.withRows(16, 3);
        Disks.end(disk, 5, false, 5);
        Check.due("drop", disk.drop(3), 2);
        Check.due("writes", disk.writes(), 5);
        Disks.dueSector("the head", disk, 0, Disks.head(2, 3, 4));
        Disks.dueSector("a dropped row's sector", disk, 2, Disks.row(1, 1, 100));
        Disks.dueSector("the sector of the row that waits", disk, 5, new int[64]);
        Check.due("it still waits", disk.count(1), 1);
    }
}
