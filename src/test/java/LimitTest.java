/** What it is: 512 calls of one object, the last of them answered as the first. */
final class LimitTest {
    private static final int ROWS = 22;

    public static void main(String[] args) {
        Check.sentence("An object is used for at most 512 calls after it has been made", LimitTest::mostRows);
        Check.sentence("512 calls with as many writes as they can make", LimitTest::mostWrites);
        Check.sentence("512 calls that throw", LimitTest::mostThrows);
        Check.sentence("512 calls of one row that is put together", LimitTest::mostBytes);
        Check.end();
    }

    private static void mostRows() {
        Disk disk = new Disk(16);
        for (int number = 1; number <= 170; number++) {
            Check.due("end " + number, disk.end(number % 10, false), number);
            Check.due("sync " + number, disk.sync(), 1);
            Check.due("drop " + number, disk.drop(number + 1), 1);
        }
        Check.due("generation", disk.count(2), 340);
        Check.due("greatest, by the last call", disk.count(3), 170);
        Check.due("calls left", disk.callsLeft(), 0);
    }

    /** Each round writes rows behind those of the last, drops these, and moves all that are left. */
    private static void mostWrites() {
        Disk disk = new Disk(64);
        int writes = 0;
        int rounds = 0;
        while (disk.callsLeft() > ROWS + 3) {
            writes += round(disk, rounds);
            rounds++;
        }
        while (disk.callsLeft() > 1) {
            Check.due("generation", disk.count(2), rounds + (rounds - 1) * (1 + ROWS));
        }
        Check.due("writes, by the last call", disk.writes(), writes);
    }

    private static int round(Disk disk, int rounds) {
        for (int i = 1; i <= ROWS; i++) {
            Check.due("end", disk.end(0, false), rounds * ROWS + i);
        }
        int gone = rounds == 0 ? 0 : ROWS;
        Check.due("sync", disk.sync(), ROWS);
        Check.due("drop", disk.drop(rounds * ROWS + 1), gone);
        Check.due("merge", disk.merge(100), gone);
        return ROWS + 1 + (gone == 0 ? 0 : 1 + 2 * gone);
    }

    private static void mostThrows() {
        Disk disk = Disks.withRows(16, 1);
        while (disk.callsLeft() > 2) {
            Check.outOfBounds("at(0, 1)", () -> disk.at(0, 1));
        }
        Check.due("kept", disk.count(0), 1);
        Check.due("its byte, by the last call", disk.at(0, 0), 100);
    }

    private static void mostBytes() {
        Disk disk = new Disk(16);
        for (int i = 1; i <= 511; i++) {
            Check.due("add " + i, disk.add(i), i <= 40 ? i : PostDisk.ROOM);
        }
        Check.due("end, by the last call", disk.end(0, false), 1);
    }
}
