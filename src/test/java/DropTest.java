/** Promise 6: drop. */
final class DropTest {
    public static void main(String[] args) {
        Check.sentence("A DROP: how many left", DropTest::howMany);
        Check.sentence("also of fifty rows", DropTest::ofFifty);
        Check.sentence("(0: nothing is written)", DropTest::nothingToDo);
        Check.sentence("rows that wait, and the greatest number, stay as they are", DropTest::whileRowsWait);
        Check.sentence("DOWN", DropTest::whileDown);
        Check.sentence("LOST", DropTest::lost);
        Check.end();
    }

    private static void howMany() {
        Disk disk = Disks.withRows(16, 6);
        Check.due("drop(4)", disk.drop(4), 3);
        Check.due("generation", disk.count(2), 2);
        Check.due("writes", disk.writes(), 8);
        Disks.dueNumbers("drop(4)", disk, 4, 5, 6);
        Disks.dueSector("head", disk, 0, Disks.head(2, 6, 5, 6, 7));
        Check.due("drop(7)", disk.drop(7), 3);
        Disks.dueSector("a head without rows", disk, 1, Disks.head(3, 6));
        Check.due("restart", Disks.restart(disk), 0);
        Check.due("generation then", disk.count(2), 3);
    }

    private static void ofFifty() {
        Disk disk = new Disk(64);
        for (int number = 1; number <= 50; number++) {
            disk.end(0, number > 46);
        }
        Check.due("sync", disk.sync(), 50);
        Check.due("drop(1)", disk.drop(1), 0);
        Check.due("drop(2)", disk.drop(2), 1);
        Check.due("drop(MAX)", disk.drop(Integer.MAX_VALUE), 45);
        Disks.dueNumbers("events", disk, 47, 48, 49, 50);
        Disks.dueSectorsOfRows("events", disk, 48, 49, 50, 51);
    }

    private static void nothingToDo() {
        Disk disk = Disks.withRows(16, 2);
        disk.end(3, true);
        disk.sync();
        int writes = disk.writes();
        disk.cut(0, 0);
        int[] none = {Integer.MIN_VALUE, -1, 0, 1};
        for (int before : none) {
            Check.due("drop(" + before + ")", disk.drop(before), 0);
        }
        disk.poke(2, 9, 9);
        disk.poke(3, 9, 9);
        Check.due("an event and wrong rows alone", disk.drop(Integer.MAX_VALUE), 0);
        Check.due("writes", disk.writes(), writes);
        Check.due("generation", disk.count(2), 2);
        Check.due("none is kept", new Disk(16).drop(Integer.MAX_VALUE), 0);
    }

    private static void whileRowsWait() {
        Disk disk = Disks.withRows(16, 3);
        Disks.end(disk, 5, false, 50);
        disk.add(51);
        Check.due("drop", disk.drop(100), 3);
        Check.due("a row that waits is not kept", disk.count(1), 1);
        Check.due("put together", disk.count(4), 1);
        Check.due("greatest", disk.count(3), 3);
        Disks.dueSector("head", disk, 0, Disks.head(2, 3));
        Check.due("next number", disk.end(6, false), 5);
        Check.due("sync", disk.sync(), 2);
        Disks.dueNumbers("sync", disk, 4, 5);
        Disks.dueSectorsOfRows("sync", disk, 2, 3);
        Check.due("byte", disk.at(1, 0), 51);
    }

    private static void whileDown() {
        Disk disk = Disks.takeDown(Disks.withRows(16, 2));
        int[] any = {Integer.MIN_VALUE, 0, 1, 2, 3, Integer.MAX_VALUE};
        for (int before : any) {
            Check.due("drop(" + before + ")", disk.drop(before), PostDisk.DOWN);
        }
        Check.due("writes", disk.writes(), 4);
        Check.due("start", disk.start(), 2);
    }

    private static void lost() {
        Disk disk = Disks.withRows(16, 5);
        disk.end(1, false);
        disk.cut(0, 12);
        Check.due("drop", disk.drop(3), PostDisk.LOST);
        Check.due("writes", disk.writes(), 7);
        Check.due("start", disk.start(), 5);
        Disks.dueNumbers("none left", disk, 1, 2, 3, 4, 5);
        Check.due("drop then", disk.drop(3), 2);
        disk.cut(1, 12);
        Check.due("power goes behind the write", disk.drop(4), 1);
        Check.due("and at the next", disk.drop(5), PostDisk.LOST);
    }
}
