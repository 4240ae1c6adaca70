/** Promise 8: start, and which head counts. */
final class StartTest {
    public static void main(String[] args) {
        states();
        readsTheGreaterGeneration();
        noHead();
        headsThatAreNotSo();
        generationsHaveASign();
        edgesOfGenerations();
        oneHeadAlone();
        fourBytesHighestFirst();
        equalAsRead();
        Check.end();
    }

    private static void states() {
        PostDisk disk = Disks.withRows(16, 2);
        Check.due("start while up", disk.start(), PostDisk.STATE);
        disk.end(0, false);
        disk.add(1);
        Check.due("start while up with rows that wait", disk.start(), PostDisk.STATE);
        Check.due("they still wait", disk.count(1), 1);
        Check.due("its byte is there", disk.count(4), 1);
        disk.cut(0, 0);
        disk.sync();
        Check.due("start", disk.start(), 2);
        Check.due("start again", disk.start(), PostDisk.STATE);
        Check.due("none waits", disk.count(1), 0);
        Check.due("no byte", disk.count(4), 0);
        Check.due("generation", disk.count(2), 1);
        Check.due("greatest", disk.count(3), 2);
    }

    private static void readsTheGreaterGeneration() {
        PostDisk disk = Disks.withRows(16, 3);
        disk.drop(2);
        Check.due("the second head counts", Disks.restart(disk), 2);
        disk.drop(3);
        Check.due("the third head counts", Disks.restart(disk), 1);
        disk.poke(1, 30, 4);
        Check.due("an altered head does not count", Disks.restart(disk), 2);
        Check.due("generation", disk.count(2), 2);
        disk.poke(1, 30, 4);
        Check.due("it counts when it is mended", Disks.restart(disk), 1);
        Check.due("generation then", disk.count(2), 3);
    }

    private static void noHead() {
        PostDisk disk = Disks.takeDown(Disks.withRows(16, 3));
        disk.poke(1, 0, 200);
        Check.due("start with no head", disk.start(), 0);
        Check.due("generation", disk.count(2), 0);
        Check.due("greatest", disk.count(3), 0);
        Check.due("next number", disk.end(0, false), 1);
        Check.due("sync", disk.sync(), 1);
        Check.due("sector", disk.row(0, 4), 2);
        Disks.dueSector("head", disk, 1, Disks.head(1, 1, 2));
    }

    private static void headsThatAreNotSo() {
        dueHead("as written", Disks.head(8, 77, 2, 15), 2, 8);
        dueHead("empty", Disks.head(8, 77), 0, 8);
        dueHead("other first byte", withByte(Disks.head(8, 77, 4), 0, 199), 1, 1);
        dueHead("sector 1 listed", Disks.head(8, 77, 2, 1), 1, 1);
        dueHead("sector 0 listed", Disks.head(8, 77, 0), 1, 1);
        dueHead("sector S listed", Disks.head(8, 77, 2, 16), 1, 1);
        dueHead("sector 255 listed", Disks.head(8, 77, 255), 1, 1);
        int[] fifty = new int[50];
        java.util.Arrays.fill(fifty, 3);
        dueHead("fifty", Disks.head(8, 77, fifty), 50, 8);
        dueHead("fifty-one", withByte(Disks.head(8, 77, fifty), 9, 51), 1, 1);
        dueHead("255 rows", withByte(Disks.head(8, 77, fifty), 9, 255), 1, 1);
        dueHead("a row", Disks.row(3, 5, 1, 2), 1, 1);
        int[] badSum = Disks.head(8, 77, 2);
        badSum[63] ^= 128;
        dueHead("altered sum", badSum, 1, 1);
    }

    private static int[] withByte(int[] sector, int i, int b) {
        int[] bytes = java.util.Arrays.copyOf(sector, 60);
        bytes[i] = b;
        return Disks.filled(bytes);
    }

    /** Sector 0 comes to hold these bytes beside a head of generation 1 with one row. */
    private static void dueHead(String what, int[] bytes, int kept, int generation) {
        PostDisk disk = Disks.takeDown(Disks.withRows(16, 1));
        Disks.write(disk, 0, bytes);
        Check.due("start, head " + what, disk.start(), kept);
        Check.due("generation, head " + what, disk.count(2), generation);
        Check.due("greatest, head " + what, disk.count(3), generation == 8 ? 77 : 1);
    }

    private static void generationsHaveASign() {
        PostDisk disk = Disks.takeDown(Disks.withRows(16, 1));
        Disks.write(disk, 0, Disks.head(-2, 9, 3, 4));
        Check.due("start", disk.start(), 1);
        Check.due("generation", disk.count(2), 1);
        Check.due("next number", disk.end(0, false), 2);
        Check.due("sync", disk.sync(), 1);
        Disks.dueSector("head", disk, 0, Disks.head(2, 2, 2, 3));
    }

    /** Every pair of these: the head counts whose generation, as count(2) answers it, is greater. */
    private static void edgesOfGenerations() {
        for (int even : Disks.EDGES) {
            for (int odd : Disks.EDGES) {
                if (even != odd) {
                    PostDisk disk = Disks.takeDown(Disks.withRows(16, 1));
                    Disks.write(disk, 0, Disks.head(even, 9, 3, 4));
                    Disks.write(disk, 1, Disks.head(odd, 9, 3, 4, 5));
                    String heads = "heads " + even + " and " + odd;
                    Check.due("start, " + heads, disk.start(), even > odd ? 2 : 3);
                    Check.due("generation, " + heads, disk.count(2), Math.max(even, odd));
                }
            }
        }
    }

    /** A generation below 1 counts when no other head is whole. */
    private static void oneHeadAlone() {
        int[] generations = {Integer.MIN_VALUE, -3, -2, -1, 0};
        for (int generation : generations) {
            for (int sector = 0; sector < 2; sector++) {
                PostDisk disk = Disks.takeDown(Disks.withRows(16, 1));
                Disks.write(disk, 1 - sector, new int[64]);
                Disks.write(disk, sector, Disks.head(generation, 9, 3, 4));
                String head = "head " + generation + " in " + sector;
                Check.due("start, " + head, disk.start(), 2);
                Check.due("generation, " + head, disk.count(2), generation);
                Check.due("next number, " + head, disk.end(0, false), 10);
                Check.due("sync, " + head, disk.sync(), 1);
                int due = generation % 2 == 0 ? 1 : 0;
                Disks.dueSector(head + ", the next", disk, due, Disks.head(generation + 1, 10, 3, 4, 2));
            }
        }
    }

    private static void fourBytesHighestFirst() {
        PostDisk disk = Disks.takeDown(Disks.withRows(16, 1));
        Disks.write(disk, 0, Disks.head(0x01020304, 0x05060708, 3));
        Check.due("start", disk.start(), 1);
        Check.due("generation", disk.count(2), 0x01020304);
        Check.due("greatest", disk.count(3), 0x05060708);
        Check.due("next number", disk.end(0, false), 0x05060709);
        Check.due("sync", disk.sync(), 1);
        Disks.dueSector("head", disk, 1, Disks.head(0x01020305, 0x05060709, 3, 2));
        Disks.dueSector("row", disk, 2, Disks.row(1, 0x05060709));
        Check.due("number", disk.row(1, 0), 0x05060709);
    }

    /** What a start reads is what the object held before power went at a write of no byte. */
    private static void equalAsRead() {
        PostDisk disk = new PostDisk(30);
        for (int i = 0; i < 12; i++) {
            Disks.end(disk, i % 10, i % 4 == 0, i, i + 1);
        }
        disk.sync();
        disk.drop(9);
        disk.merge(2);
        String before = told(disk);
        Disks.restart(disk);
        Check.same("state after a restart", told(disk), before);
    }

    private static String told(PostDisk disk) {
        StringBuilder text = new StringBuilder();
        for (int what = 0; what < 4; what++) {
            text.append(disk.count(what)).append(' ');
        }
        for (int k = 0; k < disk.count(0); k++) {
            for (int what = 0; what < 5; what++) {
                text.append(disk.row(k, what)).append(' ');
            }
        }
        return text.toString();
    }
}
