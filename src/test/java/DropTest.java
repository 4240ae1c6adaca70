/** Promise 6: drop. */
final class DropTest {
    public static void main(String[] args) {
        dropsBelowANumber();
        edges();
        eventsStay();
        wrongRowsStay();
        whileRowsWait();
        numbersHaveASign();
        edgesOfNumbers();
        loss();
        Check.end();
    }

    private static void dropsBelowANumber() {
        PostDisk disk = Disks.withRows(16, 6);
        Check.due("drop(4)", disk.drop(4), 3);
        Check.due("kept", disk.count(0), 3);
        Check.due("generation", disk.count(2), 2);
        Check.due("greatest", disk.count(3), 6);
        Check.due("writes", disk.writes(), 8);
        Disks.dueSector("head", disk, 0, Disks.head(2, 6, 5, 6, 7));
        Disks.dueSector("a dropped row's bytes stay", disk, 2, Disks.row(1, 1, 100));
        Check.due("first number", disk.row(0, 0), 4);
        Check.due("drop(4) again", disk.drop(4), 0);
        Check.due("writes of nothing", disk.writes(), 8);
        Check.due("drop all", disk.drop(7), 3);
        Disks.dueSector("empty head", disk, 1, Disks.head(3, 6));
        Check.due("restart", Disks.restart(disk), 0);
        Check.due("greatest after a restart", disk.count(3), 6);
        Check.due("generation after a restart", disk.count(2), 3);
    }

    private static void edges() {
        PostDisk disk = Disks.withRows(16, 2);
        int[] none = {Integer.MIN_VALUE, -1, 0, 1};
        for (int before : none) {
            Check.due("drop(" + before + ")", disk.drop(before), 0);
        }
        Check.due("drop(2)", disk.drop(2), 1);
        Check.due("drop(MAX)", disk.drop(Integer.MAX_VALUE), 1);
        Check.due("drop of nothing", disk.drop(Integer.MAX_VALUE), 0);
        Check.due("writes", disk.writes(), 5);
    }

    private static void eventsStay() {
        PostDisk disk = new PostDisk(16);
        for (int i = 0; i < 6; i++) {
            disk.end(i, i % 2 == 0);
        }
        disk.sync();
        Check.due("drop", disk.drop(100), 3);
        for (int k = 0; k < 3; k++) {
            Check.due("number of event " + k, disk.row(k, 0), 1 + 2 * k);
            Check.due("sector of event " + k, disk.row(k, 4), 2 + 2 * k);
        }
    }

    private static void wrongRowsStay() {
        PostDisk disk = Disks.withRows(16, 4);
        disk.poke(3, 6, 1);
        Check.due("drop", disk.drop(100), 3);
        Check.due("the wrong one stays", disk.count(0), 1);
        Check.due("its sector", disk.row(0, 4), 3);
        disk.poke(3, 6, 1);
        Check.due("drop when it is mended", disk.drop(100), 1);
        disk.end(1, false);
        disk.sync();
        disk.poke(2, 0, 2);
        disk.cut(0, 0);
        Check.due("only a wrong one", disk.drop(100), 0);
        Check.due("still up", disk.count(0), 1);
    }

    private static void whileRowsWait() {
        PostDisk disk = Disks.withRows(16, 3);
        Disks.end(disk, 5, false, 50);
        disk.add(51);
        Check.due("drop", disk.drop(100), 3);
        Check.due("waits", disk.count(1), 1);
        Check.due("put together", disk.count(4), 1);
        Disks.dueSector("head", disk, 0, Disks.head(2, 3));
        Check.due("next number", disk.end(6, false), 5);
        Check.due("sync", disk.sync(), 2);
        Check.due("number", disk.row(0, 0), 4);
        Check.due("sector", disk.row(0, 4), 2);
        Check.due("byte", disk.at(1, 0), 51);
    }

    private static void numbersHaveASign() {
        PostDisk disk = Disks.withRows(16, 2);
        Disks.write(disk, 3, Disks.row(1, -100));
        Check.due("its number", disk.row(1, 0), -100);
        Check.due("drop at the number", disk.drop(-100), 0);
        Check.due("drop above it", disk.drop(-99), 1);
        Check.due("the row above 0 stays", disk.row(0, 0), 1);
        Disks.dueSector("head", disk, 0, Disks.head(2, 2, 2));
    }

    /** Every pair of these: a row leaves when its number, as row() answers it, is below the other. */
    private static void edgesOfNumbers() {
        for (int number : Disks.EDGES) {
            for (int before : Disks.EDGES) {
                PostDisk disk = Disks.withRows(16, 1);
                Disks.write(disk, 2, Disks.row(1, number));
                Check.due("number " + number, disk.row(0, 0), number);
                int left = number < before ? 1 : 0;
                Check.due("number " + number + ", drop(" + before + ")", disk.drop(before), left);
                Check.due("kept then", disk.count(0), 1 - left);
            }
        }
    }

    private static void loss() {
        PostDisk disk = Disks.withRows(16, 5);
        disk.end(1, false);
        disk.cut(0, 12);
        Check.due("drop", disk.drop(3), PostDisk.LOST);
        Check.due("writes", disk.writes(), 7);
        Check.due("drop while down", disk.drop(3), PostDisk.DOWN);
        Check.due("start", disk.start(), 5);
        Check.due("none waits", disk.count(1), 0);
        Check.due("drop then", disk.drop(3), 2);
    }
}
