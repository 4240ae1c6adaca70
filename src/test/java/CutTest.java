/** Promise 7: cut. */
final class CutTest {
    public static void main(String[] args) {
        outside();
        goesAtTheWrite();
        tearsAtTheByte();
        staysWithNone();
        theLastCountsAlone();
        goesOnce();
        countsOverCalls();
        groupsAreAcknowledgedTogether();
        Check.end();
    }

    private static void outside() {
        PostDisk disk = Disks.withRows(16, 1);
        int[][] outside = {
            {-2, 0}, {1001, 0}, {Integer.MIN_VALUE, 0}, {Integer.MAX_VALUE, 0}, {0, -1}, {0, 64},
            {0, Integer.MIN_VALUE}, {0, Integer.MAX_VALUE}, {-1, 64}, {-1, -1}
        };
        for (int[] pair : outside) {
            Check.due("cut(" + pair[0] + ", " + pair[1] + ")", disk.cut(pair[0], pair[1]), PostDisk.OUTSIDE);
        }
        int[][] inside = {{-1, 0}, {-1, 63}, {0, 0}, {0, 63}, {1000, 0}, {1000, 63}};
        for (int[] pair : inside) {
            Check.due("cut(" + pair[0] + ", " + pair[1] + ")", disk.cut(pair[0], pair[1]), 1);
        }
        disk.cut(0, 0);
        Check.due("cut(0, 64)", disk.cut(0, 64), PostDisk.OUTSIDE);
        Check.due("a refused cut leaves what was set", disk.drop(9), PostDisk.LOST);
        Check.due("cut while down", disk.cut(0, 0), PostDisk.DOWN);
        Check.due("cut(-2, 0) while down", disk.cut(-2, 0), PostDisk.DOWN);
        disk.start();
        Check.due("a cut while down set nothing", disk.drop(9), 1);
    }

    private static void goesAtTheWrite() {
        for (int n = 0; n < 12; n++) {
            PostDisk disk = new PostDisk(64);
            Check.due("cut(" + n + ", 0)", disk.cut(n, 0), 1);
            for (int i = 0; i < 10; i++) {
                disk.end(0, false);
            }
            Check.due("sync, cut at " + n, disk.sync(), n < 11 ? PostDisk.LOST : 10);
            Check.due("writes, cut at " + n, disk.writes(), Math.min(n + 1, 11));
            for (int w = 0; w < 10; w++) {
                Check.due("row " + w + ", cut at " + n, disk.octet(2 + w, 0), w < n ? 1 : 0);
            }
        }
    }

    private static void tearsAtTheByte() {
        int[] before = Disks.row(1, 1, 100);
        int[] after = Disks.row(26, 2, 7, 8, 9);
        for (int tear = 0; tear < 64; tear++) {
            PostDisk disk = Disks.withRows(16, 1);
            disk.drop(2);
            Disks.end(disk, 9, true, 7, 8, 9);
            disk.cut(0, tear);
            Check.due("sync, torn at " + tear, disk.sync(), PostDisk.LOST);
            int[] torn = before.clone();
            System.arraycopy(after, 0, torn, 0, tear);
            Disks.dueSector("torn at " + tear, disk, 2, torn);
        }
    }

    private static void staysWithNone() {
        PostDisk disk = Disks.withRows(16, 1);
        disk.cut(0, 0);
        Check.due("cut(NONE, 0)", disk.cut(PostDisk.NONE, 0), 1);
        Check.due("drop", disk.drop(2), 1);
    }

    private static void theLastCountsAlone() {
        PostDisk disk = Disks.withRows(16, 3);
        disk.cut(0, 1);
        disk.cut(1, 2);
        Check.due("first drop", disk.drop(2), 1);
        disk.cut(1, 2);
        Check.due("second drop", disk.drop(3), 1);
        Check.due("third drop", disk.drop(4), PostDisk.LOST);
        Check.due("two new bytes", disk.octet(0, 4), 2);
    }

    private static void goesOnce() {
        PostDisk disk = Disks.withRows(16, 3);
        disk.cut(0, 0);
        Check.due("drop", disk.drop(2), PostDisk.LOST);
        Check.due("start", disk.start(), 3);
        Check.due("drop after a start", disk.drop(2), 1);
        Check.due("and again", disk.drop(3), 1);
    }

    private static void countsOverCalls() {
        PostDisk disk = new PostDisk(16);
        disk.cut(6, 0);
        for (int i = 0; i < 3; i++) {
            disk.end(0, false);
            Check.due("sync " + i, disk.sync(), 1);
        }
        Check.due("octet in between", disk.octet(2, 0), 1);
        Check.due("poke is no write", disk.poke(9, 9, 9), 9);
        Check.due("drop", disk.drop(2), PostDisk.LOST);
        PostDisk far = Disks.withRows(16, 1);
        far.cut(1000, 0);
        Check.due("a cut that is far away", far.drop(2), 1);
    }

    /** At every write and every byte: all rows of a group are there, or none, and none is wrong. */
    private static void groupsAreAcknowledgedTogether() {
        for (int n = 0; n < 4; n++) {
            for (int tear = 0; tear < 64; tear++) {
                PostDisk disk = Disks.withRows(16, 4);
                disk.drop(3);
                for (int i = 0; i < 3; i++) {
                    Disks.end(disk, 7, true, 10 + i, tear);
                }
                disk.cut(n, tear);
                Check.due("sync", disk.sync(), PostDisk.LOST);
                dueAllOrNone(disk, "cut(" + n + ", " + tear + ")", n == 3 && tear == 63);
            }
        }
    }

    private static void dueAllOrNone(PostDisk disk, String cut, boolean mayBeWhole) {
        int kept = disk.start();
        boolean all = mayBeWhole && kept == 5;
        Check.due("start, " + cut, kept, all ? 5 : 2);
        Check.due("wrong(0), " + cut, disk.wrong(0), 0);
        Check.due("number, " + cut, disk.row(0, 0), 3);
        Check.due("next number, " + cut, disk.end(0, true), all ? 8 : 5);
    }
}
