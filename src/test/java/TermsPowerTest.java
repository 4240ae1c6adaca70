import java.util.function.ToIntFunction;

/** Terms: power, calls that are refused, and calls while the disk is down. */
final class TermsPowerTest {
    public static void main(String[] args) {
        Check.sentence("POWER may be set to go at a write", TermsPowerTest::atAnyWrite);
        Check.sentence("of its sector the first so many bytes are the new ones, the others stay",
                TermsPowerTest::firstBytesAreNew);
        Check.sentence("Then the disk is DOWN until start()", TermsPowerTest::downUntilStart);
        Check.sentence("rows that wait, and the row that is put together, are gone", TermsPowerTest::rowsAreGone);
        Check.sentence("A call that throws .. changes nothing", TermsPowerTest::throwsChangeNothing);
        Check.sentence("or is refused, changes nothing", TermsPowerTest::refusalsChangeNothing);
        Check.sentence("refused while it is down, too", TermsPowerTest::refusalsWhileDown);
        Check.sentence("While it is DOWN each call answers DOWN first", TermsPowerTest::downFirst);
        Check.sentence("but end(), octet(), poke(), start() and writes()", TermsPowerTest::callsThatGoOn);
        Check.end();
    }

    private static void atAnyWrite() {
        Disk row = Disks.withRows(16, 3);
        row.end(0, false);
        row.cut(0, 9);
        Check.due("at a row's", row.sync(), PostDisk.LOST);
        Disk head = Disks.withRows(16, 3);
        head.end(0, false);
        head.cut(1, 9);
        Check.due("at a head's", head.sync(), PostDisk.LOST);
        Disk drop = Disks.withRows(16, 3);
        drop.cut(0, 9);
        Check.due("at a drop's", drop.drop(2), PostDisk.LOST);
        Disk move = Disks.withRows(16, 3);
        move.drop(2);
        move.cut(0, 9);
        Check.due("at a move's", move.merge(1), PostDisk.LOST);
        Disk moved = Disks.withRows(16, 3);
        moved.drop(2);
        moved.cut(1, 9);
        Check.due("at the head of a move", moved.merge(1), PostDisk.LOST);
    }

    private static void firstBytesAreNew() {
        int[] before = Disks.row(1, 1, Disks.bytes(40, 170));
        int[] after = Disks.row(26, 2, Disks.bytes(40, 85));
        for (int tear = 0; tear < 64; tear++) {
            Disk disk = new Disk(16);
            Disks.end(disk, 0, false, Disks.bytes(40, 170));
            disk.sync();
            disk.drop(2);
            Disks.end(disk, 9, true, Disks.bytes(40, 85));
            disk.cut(0, tear);
            Check.due("sync, torn at " + tear, disk.sync(), PostDisk.LOST);
            int[] torn = before.clone();
            System.arraycopy(after, 0, torn, 0, tear);
            Disks.dueSector("torn at " + tear, disk, 2, torn);
            Disks.dueSector("the sector behind it", disk, 3, new int[64]);
        }
    }

    private static void downUntilStart() {
        Disk disk = Disks.withRows(16, 2);
        disk.cut(0, 63);
        Check.due("drop", disk.drop(2), PostDisk.LOST);
        for (int i = 0; i < 3; i++) {
            Check.due("count(0)", disk.count(0), PostDisk.DOWN);
            Check.due("drop", disk.drop(2), PostDisk.DOWN);
            Check.due("writes", disk.writes(), 4);
        }
        Check.due("start", disk.start(), 2);
        Check.due("count(0) then", disk.count(0), 2);
        Check.due("drop then", disk.drop(2), 1);
    }

    private static void rowsAreGone() {
        Disk disk = Disks.withRows(16, 2);
        disk.end(0, false);
        disk.end(0, true);
        disk.add(1);
        disk.add(2);
        disk.cut(0, 0);
        Check.due("drop", disk.drop(2), PostDisk.LOST);
        disk.start();
        Check.due("none waits", disk.count(1), 0);
        Check.due("none is put together", disk.count(4), 0);
        Check.due("sync", disk.sync(), 0);
        Check.due("add", disk.add(9), 1);
        Check.due("end", disk.end(3, false), 3);
        disk.sync();
        Disks.dueSector("a new row alone", disk, 4, Disks.row(4, 3, 9));
    }

    /** Four kept rows, two that wait, two bytes put together, and power set to go at the second write. */
    private static Disk busy() {
        Disk disk = Disks.withRows(16, 6);
        disk.drop(3);
        Disks.end(disk, 4, false, 44);
        Disks.end(disk, 5, true, 55);
        disk.add(66);
        disk.add(77);
        disk.cut(1, 20);
        return disk;
    }

    /** All that can be seen of a disk, with what a sync at which power goes brings to it. */
    private static String toldWithLoss(Disk disk) {
        String up = Disks.told(disk, 3);
        String lost = "sync " + disk.sync() + " writes " + disk.writes() + " start " + disk.start();
        return up + ", " + lost + ", " + disk.octet(3, 19) + " " + disk.octet(3, 20) + " " + disk.count(2);
    }

    private static void dueNoChange(String call, ToIntFunction<Disk> refused, int want) {
        Disk disk = busy();
        Check.due(call, refused.applyAsInt(disk), want);
        Check.same("the disk behind " + call, toldWithLoss(disk), toldWithLoss(busy()));
    }

    private static void dueThrow(String call, ToIntFunction<Disk> refused) {
        Disk disk = busy();
        Check.outOfBounds(call, () -> refused.applyAsInt(disk));
        Check.same("the disk behind " + call, toldWithLoss(disk), toldWithLoss(busy()));
    }

    private static void throwsChangeNothing() {
        dueThrow("at(0, 1)", disk -> disk.at(0, 1));
        dueThrow("at(0, -1)", disk -> disk.at(0, -1));
        dueThrow("at(4, 0)", disk -> disk.at(4, 0));
        dueThrow("at(-1, 0)", disk -> disk.at(-1, 0));
        dueThrow("poke(16, 0, 255)", disk -> disk.poke(16, 0, 255));
        dueThrow("poke(-1, 63, 255)", disk -> disk.poke(-1, 63, 255));
        dueThrow("poke(1, 64, 255)", disk -> disk.poke(1, 64, 255));
        dueThrow("poke(1, -1, 255)", disk -> disk.poke(1, -1, 255));
        dueThrow("octet(16, 0)", disk -> disk.octet(16, 0));
        dueThrow("octet(0, 64)", disk -> disk.octet(0, 64));
    }

    private static void refusalsChangeNothing() {
        dueNoChange("end(-1, false)", disk -> disk.end(-1, false), PostDisk.OUTSIDE);
        dueNoChange("end(10, true)", disk -> disk.end(10, true), PostDisk.OUTSIDE);
        dueNoChange("merge(-1)", disk -> disk.merge(-1), PostDisk.OUTSIDE);
        dueNoChange("merge(101)", disk -> disk.merge(101), PostDisk.OUTSIDE);
        dueNoChange("merge(100)", disk -> disk.merge(100), PostDisk.STATE);
        dueNoChange("drop(0)", disk -> disk.drop(0), 0);
        dueNoChange("cut(-2, 0)", disk -> disk.cut(-2, 0), PostDisk.OUTSIDE);
        dueNoChange("cut(1001, 0)", disk -> disk.cut(1001, 0), PostDisk.OUTSIDE);
        dueNoChange("cut(0, -1)", disk -> disk.cut(0, -1), PostDisk.OUTSIDE);
        dueNoChange("cut(0, 64)", disk -> disk.cut(0, 64), PostDisk.OUTSIDE);
        dueNoChange("start()", disk -> disk.start(), PostDisk.STATE);
        dueNoChange("count(5)", disk -> disk.count(5), PostDisk.OUTSIDE);
        dueNoChange("row(0, 5)", disk -> disk.row(0, 5), PostDisk.OUTSIDE);
        dueNoChange("row(4, 0)", disk -> disk.row(4, 0), PostDisk.NONE);
        dueNoChange("wrong(2)", disk -> disk.wrong(2), PostDisk.OUTSIDE);
        Disk full = new Disk(16);
        Disks.end(full, 0, false, Disks.bytes(40, 8));
        for (int i = 0; i < 40; i++) {
            full.add(9);
        }
        Check.due("add of a 41st", full.add(1), PostDisk.ROOM);
        Check.due("bytes", full.count(4), 40);
        full.end(0, false);
        full.sync();
        Disks.dueSector("the row before", full, 2, Disks.row(1, 1, Disks.bytes(40, 8)));
        Disks.dueSector("the row", full, 3, Disks.row(1, 2, Disks.bytes(40, 9)));
    }

    private static Disk lost() {
        Disk disk = busy();
        Check.due("sync", disk.sync(), PostDisk.LOST);
        return disk;
    }

    private static void dueNoChangeWhileDown(String call, ToIntFunction<Disk> refused, int want) {
        Disk disk = lost();
        Check.due(call + " while down", refused.applyAsInt(disk), want);
        Disk other = lost();
        Check.due("start behind " + call, disk.start(), other.start());
        Check.same("the disk behind " + call, Disks.told(disk, 4), Disks.told(other, 4));
        Check.due("power stays behind " + call, disk.drop(4), 1);
    }

    private static void refusalsWhileDown() {
        dueNoChangeWhileDown("add(1)", disk -> disk.add(1), PostDisk.DOWN);
        dueNoChangeWhileDown("end(1, true)", disk -> disk.end(1, true), PostDisk.NONE);
        dueNoChangeWhileDown("sync()", disk -> disk.sync(), PostDisk.DOWN);
        dueNoChangeWhileDown("merge(1)", disk -> disk.merge(1), PostDisk.DOWN);
        dueNoChangeWhileDown("drop(9)", disk -> disk.drop(9), PostDisk.DOWN);
        dueNoChangeWhileDown("cut(0, 0)", disk -> disk.cut(0, 0), PostDisk.DOWN);
        dueNoChangeWhileDown("count(0)", disk -> disk.count(0), PostDisk.DOWN);
        dueNoChangeWhileDown("row(0, 0)", disk -> disk.row(0, 0), PostDisk.DOWN);
        dueNoChangeWhileDown("at(0, 0)", disk -> disk.at(0, 0), PostDisk.DOWN);
        dueNoChangeWhileDown("wrong(0)", disk -> disk.wrong(0), PostDisk.DOWN);
    }

    /** Whatever their arguments are: right ones, ones at an edge, ones that are refused. */
    private static void downFirst() {
        int[] any = {Integer.MIN_VALUE, -2, -1, 0, 1, 2, 4, 5, 63, 64, 100, 101, 1000, 1001, Integer.MAX_VALUE};
        Disk disk = lost();
        Check.due("sync()", disk.sync(), PostDisk.DOWN);
        for (int a : any) {
            Check.due("add(" + a + ")", disk.add(a), PostDisk.DOWN);
            Check.due("merge(" + a + ")", disk.merge(a), PostDisk.DOWN);
            Check.due("drop(" + a + ")", disk.drop(a), PostDisk.DOWN);
            Check.due("count(" + a + ")", disk.count(a), PostDisk.DOWN);
            Check.due("wrong(" + a + ")", disk.wrong(a), PostDisk.DOWN);
            Check.due("cut(" + a + ", 0)", disk.cut(a, 0), PostDisk.DOWN);
            Check.due("cut(0, " + a + ")", disk.cut(0, a), PostDisk.DOWN);
            Check.due("row(" + a + ", 0)", disk.row(a, 0), PostDisk.DOWN);
            Check.due("row(0, " + a + ")", disk.row(0, a), PostDisk.DOWN);
            Check.due("at(" + a + ", 0)", disk.at(a, 0), PostDisk.DOWN);
            Check.due("at(0, " + a + ")", disk.at(0, a), PostDisk.DOWN);
        }
    }

    private static void callsThatGoOn() {
        Disk disk = lost();
        Check.due("end(0, true)", disk.end(0, true), PostDisk.NONE);
        Check.due("end(9, false)", disk.end(9, false), PostDisk.NONE);
        Check.due("octet(4, 6)", disk.octet(4, 6), 102);
        Check.outOfBounds("octet(16, 0)", () -> disk.octet(16, 0));
        Check.due("poke(4, 6, 1)", disk.poke(4, 6, 1), 103);
        Check.outOfBounds("poke(0, 64, 1)", () -> disk.poke(0, 64, 1));
        Check.due("writes()", disk.writes(), 7 + 1 + 2);
        Check.due("start()", disk.start(), 4);
        Check.due("the altered byte is told", disk.wrong(1), 0);
    }
}
