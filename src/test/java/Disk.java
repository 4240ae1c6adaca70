/** A PostDisk whose calls are counted: the document promises nothing after the 512th. */
final class Disk {
    static final int MOST_CALLS = 512;

    private final PostDisk disk;
    private int calls;

    Disk(int sectors) {
        disk = new PostDisk(sectors);
    }

    int callsLeft() {
        return MOST_CALLS - calls;
    }

    int add(int b) {
        return used().add(b);
    }

    int end(int kind, boolean event) {
        return used().end(kind, event);
    }

    int sync() {
        return used().sync();
    }

    int merge(int steps) {
        return used().merge(steps);
    }

    int drop(int before) {
        return used().drop(before);
    }

    int cut(int n, int tear) {
        return used().cut(n, tear);
    }

    int start() {
        return used().start();
    }

    int count(int what) {
        return used().count(what);
    }

    int row(int k, int what) {
        return used().row(k, what);
    }

    int at(int k, int i) {
        return used().at(k, i);
    }

    int wrong(int what) {
        return used().wrong(what);
    }

    int poke(int sector, int i, int mask) {
        return used().poke(sector, i, mask);
    }

    int octet(int sector, int i) {
        return used().octet(sector, i);
    }

    int writes() {
        return used().writes();
    }

    private PostDisk used() {
        if (calls == MOST_CALLS) {
            throw new IllegalStateException("a test that makes more than 512 calls of one object");
        }
        calls++;
        return disk;
    }
}
