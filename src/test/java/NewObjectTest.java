/** Promise 1: a new object. */
final class NewObjectTest {
    public static void main(String[] args) {
        Check.sentence("S is the nearest of 16 .. 64: too small", NewObjectTest::tooSmall);
        Check.sentence("S is the nearest of 16 .. 64: too large", NewObjectTest::tooLarge);
        Check.sentence("S is the nearest of 16 .. 64: each of them", NewObjectTest::eachBetween);
        Check.sentence("it is up", NewObjectTest::isUp);
        Check.sentence("it is empty", NewObjectTest::isEmpty);
        Check.sentence("it is apart from others", NewObjectTest::isApart);
        Check.end();
    }

    private static void tooSmall() {
        int[] small = {Integer.MIN_VALUE, -64, -16, -1, 0, 1, 2, 15};
        for (int asked : small) {
            dueSectors(asked, 16);
        }
    }

    private static void tooLarge() {
        int[] large = {65, 66, 80, 128, 255, 256, 9999, 1 << 26, Integer.MAX_VALUE};
        for (int asked : large) {
            dueSectors(asked, 64);
        }
    }

    private static void eachBetween() {
        for (int asked = 16; asked <= 64; asked++) {
            dueSectors(asked, asked);
        }
    }

    private static void dueSectors(int asked, int due) {
        Disk disk = new Disk(asked);
        String made = "PostDisk(" + asked + ")";
        Check.due(made + " octet(S - 1, 63)", disk.octet(due - 1, 63), 0);
        Check.outOfBounds(made + " octet(S, 0)", () -> disk.octet(due, 0));
        int room = 0;
        while (room < 100 && disk.end(0, true) > 0) {
            room++;
        }
        Check.due(made + " room for events", room, Disks.mostRows(due));
    }

    private static void isUp() {
        Disk disk = new Disk(20);
        Check.due("start", disk.start(), PostDisk.STATE);
        Check.due("count(0)", disk.count(0), 0);
        Check.due("end", disk.end(0, false), 1);
        Check.due("power stays: sync", disk.sync(), 1);
    }

    private static void isEmpty() {
        Disk disk = new Disk(20);
        for (int what = 0; what < 5; what++) {
            Check.due("count(" + what + ")", disk.count(what), 0);
        }
        Check.due("wrong(0)", disk.wrong(0), 0);
        Check.due("wrong(1)", disk.wrong(1), PostDisk.NONE);
        Check.due("row(0, 4)", disk.row(0, 4), PostDisk.NONE);
        Check.outOfBounds("at(0, 0)", () -> disk.at(0, 0));
        Check.due("sync", disk.sync(), 0);
        Check.due("merge", disk.merge(100), 0);
        Check.due("drop", disk.drop(Integer.MAX_VALUE), 0);
        Check.due("writes", disk.writes(), 0);
    }

    private static void isApart() {
        Disk one = Disks.withRows(16, 3);
        Disk other = new Disk(16);
        Check.due("the other's count(0)", other.count(0), 0);
        Check.due("the one's count(0)", one.count(0), 3);
        Check.due("the other's octet", other.octet(2, 0), 0);
        Disks.takeDown(one);
        Check.due("the other is up", other.count(1), 0);
        Check.due("the one is down", one.count(1), PostDisk.DOWN);
    }
}
