/** Promise 12: wrong. */
final class WrongTest {
    public static void main(String[] args) {
        Check.sentence("How many kept rows are WRONG (what = 0)", WrongTest::howMany);
        Check.sentence("all of fifty", WrongTest::allOfFifty);
        Check.sentence("kept rows alone", WrongTest::keptAlone);
        Check.sentence("the first of them (1; NONE)", WrongTest::theFirst);
        Check.sentence("DOWN", WrongTest::whileDown);
        Check.sentence("OUTSIDE", WrongTest::outside);
        Check.end();
    }

    private static void howMany() {
        Disk disk = Disks.withRows(16, 6);
        Check.due("none", disk.wrong(0), 0);
        for (int k = 5; k >= 0; k--) {
            disk.poke(2 + k, 63 - k, 1);
            Check.due("wrong(0)", disk.wrong(0), 6 - k);
        }
        for (int k = 5; k >= 0; k--) {
            disk.poke(2 + k, 63 - k, 1);
            Check.due("wrong(0) when they are mended", disk.wrong(0), k);
        }
        Check.due("none is kept", new Disk(16).wrong(0), 0);
    }

    private static void allOfFifty() {
        Disk disk = Disks.withEvents(64, 50);
        Check.due("none", disk.wrong(0), 0);
        disk.poke(51, 0, 64);
        Check.due("the last of fifty", disk.wrong(1), 49);
        for (int sector = 2; sector < 51; sector++) {
            disk.poke(sector, 0, 64);
        }
        Check.due("fifty", disk.wrong(0), 50);
        Check.due("the first", disk.wrong(1), 0);
    }

    private static void keptAlone() {
        Disk disk = Disks.withRows(16, 3);
        disk.drop(2);
        disk.poke(2, 0, 3);
        disk.poke(5, 0, 3);
        disk.poke(0, 0, 3);
        disk.poke(1, 0, 3);
        Check.due("sectors that are in no row", disk.wrong(0), 0);
        disk.poke(4, 0, 64);
        Check.due("wrong(0)", disk.wrong(0), 1);
        Check.due("wrong(1)", disk.wrong(1), 1);
        Check.due("a drop leaves it", disk.drop(100), 1);
        Check.due("wrong(1) behind a drop", disk.wrong(1), 0);
    }

    private static void theFirst() {
        Disk disk = Disks.withRows(16, 6);
        Check.due("none", disk.wrong(1), PostDisk.NONE);
        for (int k = 5; k >= 0; k--) {
            disk.poke(2 + k, k, 1);
            Check.due("wrong(1)", disk.wrong(1), k);
        }
        Check.due("none is kept", new Disk(16).wrong(1), PostDisk.NONE);
        Disk turned = Disks.withRows(16, 2);
        turned.drop(2);
        turned.end(0, false);
        turned.sync();
        turned.poke(2, 9, 1);
        turned.poke(3, 9, 1);
        Check.due("the first by its number, not its sector", turned.wrong(1), 0);
        turned.poke(3, 9, 1);
        Check.due("the one in sector 2", turned.wrong(1), 1);
    }

    private static void whileDown() {
        Disk disk = Disks.takeDown(Disks.withRows(16, 2));
        for (int what = -2; what < 4; what++) {
            Check.due("wrong(" + what + ")", disk.wrong(what), PostDisk.DOWN);
        }
    }

    private static void outside() {
        Disk disk = Disks.withRows(16, 2);
        disk.poke(2, 2, 2);
        int[] outside = {-1, -2, 2, 3, 256, Integer.MIN_VALUE, Integer.MAX_VALUE};
        for (int what : outside) {
            Check.due("wrong(" + what + ")", disk.wrong(what), PostDisk.OUTSIDE);
            Check.due("wrong(" + what + ") of none", new Disk(16).wrong(what), PostDisk.OUTSIDE);
        }
    }
}
