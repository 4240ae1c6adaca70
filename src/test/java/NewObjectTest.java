/** Promise 1: S is the nearest of 16 .. 64, and it is up. */
final class NewObjectTest {
    private static final int[][] NEAREST = {
        {Integer.MIN_VALUE, 16}, {-1, 16}, {0, 16}, {15, 16}, {16, 16}, {17, 17}, {40, 40},
        {63, 63}, {64, 64}, {65, 64}, {9999, 64}, {Integer.MAX_VALUE, 64}
    };

    public static void main(String[] args) {
        for (int[] pair : NEAREST) {
            sectors(pair[0], pair[1]);
        }
        isUpAndEmpty();
        objectsAreApart();
        Check.end();
    }

    private static void sectors(int asked, int due) {
        PostDisk disk = new PostDisk(asked);
        String made = "PostDisk(" + asked + ")";
        for (int sector = 0; sector < due; sector++) {
            for (int i = 0; i < 64; i++) {
                Check.due(made + " octet", disk.octet(sector, i), 0);
            }
        }
        Check.outOfBounds(made + " octet(S, 0)", () -> disk.octet(due, 0));
        int room = 0;
        while (room < 100 && disk.end(0, true) > 0) {
            room++;
        }
        Check.due(made + " room for events", room, Math.min(due - 2, 50));
    }

    private static void isUpAndEmpty() {
        PostDisk disk = new PostDisk(20);
        Check.due("new start", disk.start(), PostDisk.STATE);
        for (int what = 0; what < 5; what++) {
            Check.due("new count(" + what + ")", disk.count(what), 0);
        }
        Check.due("new writes", disk.writes(), 0);
        Check.due("new wrong(0)", disk.wrong(0), 0);
        Check.due("new wrong(1)", disk.wrong(1), PostDisk.NONE);
        Check.due("new sync", disk.sync(), 0);
        Check.due("new merge", disk.merge(100), 0);
        Check.due("new drop", disk.drop(Integer.MAX_VALUE), 0);
        Check.due("new writes after calls that had nothing to do", disk.writes(), 0);
    }

    private static void objectsAreApart() {
        PostDisk one = Disks.withRows(16, 3);
        PostDisk other = new PostDisk(16);
        Check.due("the other's count(0)", other.count(0), 0);
        Check.due("the one's count(0)", one.count(0), 3);
        Check.due("the other's octet", other.octet(2, 0), 0);
    }
}
