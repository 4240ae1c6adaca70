import java.util.ArrayList;
import java.util.List;
import java.util.TreeSet;

/**
 * The document told a second time, by other means than the class uses: lists that are made anew,
 * and a loss of power as an exception. It serves ModelTest alone.
 */
final class Model {
    private static final class Loss extends Exception {
        private static final long serialVersionUID = 1;
    }

    private final int[][] disk;
    private List<Integer> kept = new ArrayList<>();
    private List<int[]> waiting = new ArrayList<>();
    private List<Integer> open = new ArrayList<>();
    private int generation = 0;
    private int greatest = 0;
    private int writes = 0;
    private int cutAt = -1;
    private int tear = 0;
    private boolean down = false;

    Model(int sectors) {
        disk = new int[sectors < 16 ? 16 : sectors > 64 ? 64 : sectors][64];
    }

    int add(int b) {
        if (down) return -33;
        if (open.size() == 40) return -14;
        open.add(b & 255);
        return open.size();
    }

    int end(int kind, boolean event) {
        if (kind < 0 || kind > 9) return -12;
        if (down) return -1;
        int rows = kept.size() + waiting.size() + (event ? 0 : 4);
        int[] content = open.stream().mapToInt(Integer::intValue).toArray();
        open = new ArrayList<>();
        if (rows >= disk.length - 2 || rows >= 50) return -14;
        int number = greatest + waiting.size() + 1;
        waiting.add(Disks.row(1 + kind + (event ? 16 : 0), number, content));
        return number;
    }

    int sync() {
        if (down) return -33;
        if (waiting.isEmpty()) return 0;
        try {
            List<Integer> all = new ArrayList<>(kept);
            for (int[] row : waiting) {
                int sector = free(all, disk.length);
                write(sector, row);
                all.add(sector);
            }
            int many = waiting.size();
            writeHead(greatest + many, all);
            waiting = new ArrayList<>();
            return many;
        } catch (Loss e) {
            return lose();
        }
    }

    int merge(int steps) {
        if (down) return -33;
        if (steps < 0 || steps > 100) return -12;
        if (!waiting.isEmpty()) return -13;
        try {
            for (int moves = 0; moves < steps; moves++) {
                int last = kept.stream().mapToInt(Integer::intValue).max().orElse(-1);
                int to = free(kept, last);
                if (to < 0) return moves;
                write(to, disk[last].clone());
                List<Integer> all = new ArrayList<>(kept);
                all.set(all.indexOf(last), to);
                writeHead(greatest, all);
            }
            return steps;
        } catch (Loss e) {
            return lose();
        }
    }

    int drop(int before) {
        if (down) return -33;
        List<Integer> all = new ArrayList<>();
        for (int sector : kept) {
            boolean goes = isRow(sector) && disk[sector][0] < 17 && four(sector, 1) < before;
            if (!goes) all.add(sector);
        }
        int many = kept.size() - all.size();
        if (many == 0) return 0;
        try {
            writeHead(greatest, all);
            return many;
        } catch (Loss e) {
            return lose();
        }
    }

    int cut(int n, int tear) {
        if (down) return -33;
        if (n < -1 || n > 1000 || tear < 0 || tear > 63) return -12;
        cutAt = n < 0 ? -1 : writes + n;
        this.tear = tear;
        return 1;
    }

    int start() {
        if (!down) return -13;
        down = false;
        generation = 0;
        greatest = 0;
        kept = new ArrayList<>();
        boolean found = false;
        for (int sector = 0; sector < 2; sector++) {
            if (isHead(sector) && (!found || four(sector, 1) > generation)) {
                found = true;
                generation = four(sector, 1);
                greatest = four(sector, 5);
                kept = listed(sector);
            }
        }
        return kept.size();
    }

    int count(int what) {
        if (down) return -33;
        if (what < 0 || what > 4) return -12;
        return new int[] {kept.size(), waiting.size(), generation, greatest, open.size()}[what];
    }

    int row(int k, int what) {
        if (down) return -33;
        if (what < 0 || what > 4) return -12;
        if (k < 0 || k >= kept.size()) return -1;
        int sector = kept.get(k);
        if (what == 4) return sector;
        if (!isRow(sector)) return -1;
        int mark = disk[sector][0];
        int event = mark > 16 ? 1 : 0;
        return new int[] {four(sector, 1), mark - 1 - 16 * event, event, disk[sector][5]}[what];
    }

    int at(int k, int i) {
        if (down) return -33;
        if (k < 0 || k >= kept.size()) throw new ArrayIndexOutOfBoundsException("no such byte");
        int sector = kept.get(k);
        if (!isRow(sector)) return -1;
        if (i < 0 || i >= disk[sector][5]) throw new ArrayIndexOutOfBoundsException("no such byte");
        return disk[sector][6 + i];
    }

    int wrong(int what) {
        if (down) return -33;
        if (what != 0 && what != 1) return -12;
        List<Integer> all = new ArrayList<>();
        for (int k = 0; k < kept.size(); k++) {
            if (!isRow(kept.get(k))) all.add(k);
        }
        return what == 0 ? all.size() : all.isEmpty() ? -1 : all.get(0);
    }

    int poke(int sector, int i, int mask) {
        int b = octet(sector, i) ^ mask & 255;
        disk[sector][i] = b;
        return b;
    }

    int octet(int sector, int i) {
        if (sector < 0 || sector >= disk.length || i < 0 || i > 63) {
            throw new ArrayIndexOutOfBoundsException("no such byte");
        }
        return disk[sector][i];
    }

    int writes() {
        return writes;
    }

    int[] sector(int sector) {
        return disk[sector];
    }

    private int four(int sector, int i) {
        int[] d = disk[sector];
        return ((d[i] * 256 + d[i + 1]) * 256 + d[i + 2]) * 256 + d[i + 3];
    }

    private boolean isWhole(int sector) {
        return disk[sector][0] != 0 && Disks.sum(disk[sector]) == four(sector, 60);
    }

    private boolean isRow(int sector) {
        int mark = disk[sector][0];
        boolean so = mark >= 1 && mark <= 10 || mark >= 17 && mark <= 26;
        return isWhole(sector) && so && disk[sector][5] <= 40;
    }

    private boolean isHead(int sector) {
        if (!isWhole(sector) || disk[sector][0] != 200 || disk[sector][9] > 50) return false;
        return listed(sector).stream().allMatch(s -> s >= 2 && s < disk.length);
    }

    private List<Integer> listed(int sector) {
        List<Integer> all = new ArrayList<>();
        for (int k = 0; k < disk[sector][9]; k++) {
            all.add(disk[sector][10 + k]);
        }
        return all;
    }

    private int free(List<Integer> taken, int bound) {
        TreeSet<Integer> sectors = new TreeSet<>();
        for (int sector = 2; sector < bound; sector++) {
            sectors.add(sector);
        }
        sectors.removeAll(taken);
        return sectors.isEmpty() ? -1 : sectors.first();
    }

    private void write(int sector, int[] bytes) throws Loss {
        boolean goes = writes == cutAt;
        writes++;
        System.arraycopy(bytes, 0, disk[sector], 0, goes ? tear : 64);
        if (goes) throw new Loss();
    }

    private void writeHead(int number, List<Integer> all) throws Loss {
        int[] sectors = all.stream().mapToInt(Integer::intValue).toArray();
        write(Math.floorMod(generation + 1, 2), Disks.head(generation + 1, number, sectors));
        generation++;
        greatest = number;
        kept = all;
    }

    private int lose() {
        down = true;
        cutAt = -1;
        waiting = new ArrayList<>();
        open = new ArrayList<>();
        return -34;
    }
}
