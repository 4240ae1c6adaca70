/**
 * A disk for rows of bytes that loses power at any write, at any byte. What the calls answer is
 * said by the numbered promises of the document, DOC.md.
 *
 * <p>The head that counts is held in memory and read from the sectors by start() alone; the bytes
 * of kept rows are always read from their sectors, so an altered byte is seen at once. When power
 * goes in the midst of a call the head in memory may be half changed: that is harmless, since no
 * call looks at it before start() reads it anew.
 */
public final class PostDisk {
    public static final int NONE = -1, OUTSIDE = -12, STATE = -13, ROOM = -14, DOWN = -33, LOST = -34;

    private static final int LEAST_SECTORS = 16;
    private static final int MOST_SECTORS = 64;
    private static final int SECTOR_BYTES = 64;
    private static final int SUMMED_BYTES = 60;
    private static final int SUM_FACTOR = 0x85EBCA77;

    private static final int HEAD_SECTORS = 2;
    private static final int HEAD_MARK = 200;
    private static final int HEAD_GENERATION = 1;
    private static final int HEAD_GREATEST = 5;
    private static final int HEAD_KEPT = 9;
    private static final int HEAD_LIST = 10;
    private static final int MOST_KEPT = 50;

    private static final int ROW_NUMBER = 1;
    private static final int ROW_LENGTH = 5;
    private static final int ROW_CONTENT = 6;
    private static final int MOST_CONTENT = 40;
    private static final int MOST_KIND = 9;
    private static final int EVENT_MARK = 16;
    private static final int KEPT_FREE_FOR_EVENTS = 4;

    // one more than can wait: the row that is put together has a slot too
    private static final int WAITING_SLOTS = MOST_KEPT + 1;

    private static final int MOST_STEPS = 100;
    private static final int MOST_CUT = 1000;

    private final Platter platter;
    private final int mostRows;
    private final Image image;
    private final Head head;
    private final Waiting waiting;
    private boolean down;

    public PostDisk(int sectors) {
        platter = new Platter(sectors);
        mostRows = Math.min(platter.sectors - HEAD_SECTORS, MOST_KEPT);
        image = new Image();
        head = new Head();
        waiting = new Waiting();
    }

    public int add(int b) {
        if (down) {
            return DOWN;
        }
        return waiting.append(b) ? waiting.openLength() : ROOM;
    }

    public int end(int kind, boolean event) {
        if (kind < 0 || kind > MOST_KIND) {
            return OUTSIDE;
        }
        if (down) {
            return NONE;
        }
        if (!hasRoom(event)) {
            waiting.emptyOpenRow();
            return ROOM;
        }
        waiting.close(1 + kind + (event ? EVENT_MARK : 0));
        return head.greatest + waiting.ended;
    }

    public int sync() {
        if (down) {
            return DOWN;
        }
        int rows = waiting.ended;
        if (rows == 0) {
            return 0;
        }
        for (int w = 0; w < rows; w++) {
            int sector = head.leastFree(platter.sectors);
            head.keep(sector);
            waiting.fill(image, w, head.greatest + 1 + w);
            if (!platter.write(sector, image)) {
                return lose();
            }
        }
        head.greatest += rows;
        if (!writeHead()) {
            return lose();
        }
        waiting.removeEnded();
        return rows;
    }

    public int merge(int steps) {
        if (down) {
            return DOWN;
        }
        if (steps < 0 || steps > MOST_STEPS) {
            return OUTSIDE;
        }
        if (waiting.ended > 0) {
            return STATE;
        }
        int moves = 0;
        while (moves < steps) {
            int last = head.lastBySector();
            int from = head.sectorOf(last);
            int to = head.leastFree(from);
            if (to == NONE) {
                break;
            }
            if (!move(last, from, to)) {
                return lose();
            }
            moves++;
        }
        return moves;
    }

    public int drop(int before) {
        if (down) {
            return DOWN;
        }
        int rows = head.kept;
        int stay = 0;
        for (int k = 0; k < rows; k++) {
            int sector = head.sectorOf(k);
            if (!isDroppable(sector, before)) {
                head.place(stay, sector);
                stay++;
            }
        }
        if (stay == rows) {
            return 0;
        }
        head.kept = stay;
        return writeHead() ? rows - stay : lose();
    }

    public int cut(int n, int tear) {
        if (down) {
            return DOWN;
        }
        if (n < NONE || n > MOST_CUT || tear < 0 || tear >= SECTOR_BYTES) {
            return OUTSIDE;
        }
        platter.setCut(n, tear);
        return 1;
    }

    public int start() {
        if (!down) {
            return STATE;
        }
        head.read(platter);
        down = false;
        return head.kept;
    }

    public int count(int what) {
        if (down) {
            return DOWN;
        }
        switch (what) {
            case 0:
                return head.kept;
            case 1:
                return waiting.ended;
            case 2:
                return head.generation;
            case 3:
                return head.greatest;
            case 4:
                return waiting.openLength();
            default:
                return OUTSIDE;
        }
    }

    public int row(int k, int what) {
        if (down) {
            return DOWN;
        }
        if (what < 0 || what > 4) {
            return OUTSIDE;
        }
        int sector = head.sectorOf(k);
        if (what == 4 || sector == NONE) {
            return sector;
        }
        if (!platter.isRow(sector)) {
            return NONE;
        }
        switch (what) {
            case 0:
                return platter.fourBytes(sector, ROW_NUMBER);
            case 1:
                return kindOf(platter.look(sector, 0));
            case 2:
                return platter.isEvent(sector) ? 1 : 0;
            default:
                return platter.look(sector, ROW_LENGTH);
        }
    }

    public int at(int k, int i) throws ArrayIndexOutOfBoundsException {
        if (down) {
            return DOWN;
        }
        int sector = head.sectorOf(k);
        if (sector == NONE) {
            throw new ArrayIndexOutOfBoundsException("no such row");
        }
        if (!platter.isRow(sector)) {
            return NONE;
        }
        if (i < 0 || i >= platter.look(sector, ROW_LENGTH)) {
            throw new ArrayIndexOutOfBoundsException("no such byte of the row");
        }
        return platter.look(sector, ROW_CONTENT + i);
    }

    public int wrong(int what) {
        if (down) {
            return DOWN;
        }
        if (what < 0 || what > 1) {
            return OUTSIDE;
        }
        int many = 0;
        for (int k = 0; k < head.kept; k++) {
            if (!platter.isRow(head.sectorOf(k))) {
                if (what == 1) {
                    return k;
                }
                many++;
            }
        }
        return what == 1 ? NONE : many;
    }

    public int poke(int sector, int i, int mask) throws ArrayIndexOutOfBoundsException {
        if (!platter.holds(sector, i)) {
            throw new ArrayIndexOutOfBoundsException("no such byte of the disk");
        }
        platter.set(sector, i, platter.look(sector, i) ^ mask);
        return platter.look(sector, i);
    }

    public int octet(int sector, int i) throws ArrayIndexOutOfBoundsException {
        if (!platter.holds(sector, i)) {
            throw new ArrayIndexOutOfBoundsException("no such byte of the disk");
        }
        return platter.look(sector, i);
    }

    public int writes() {
        return platter.written;
    }

    private boolean hasRoom(boolean event) {
        int rows = head.kept + waiting.ended;
        return (event ? rows : rows + KEPT_FREE_FOR_EVENTS) < mostRows;
    }

    private boolean isDroppable(int sector, int before) {
        return platter.isRow(sector)
                && !platter.isEvent(sector)
                && platter.fourBytes(sector, ROW_NUMBER) < before;
    }

    /** Answers whether power stayed. */
    private boolean move(int k, int from, int to) {
        image.copy(platter, from);
        if (!platter.write(to, image)) {
            return false;
        }
        head.place(k, to);
        return writeHead();
    }

    /** Answers whether power stayed. */
    private boolean writeHead() {
        head.generation++;
        head.fill(image);
        return platter.write(head.generation & 1, image);
    }

    private int lose() {
        down = true;
        waiting.removeEnded();
        waiting.emptyOpenRow();
        return LOST;
    }

    private static int kindOf(int mark) {
        return (mark - 1) & (EVENT_MARK - 1);
    }

    private static boolean isRowMark(int mark) {
        return mark >= 1 && mark <= 1 + MOST_KIND + EVENT_MARK && kindOf(mark) <= MOST_KIND;
    }

    private static int sumWith(int sum, int b) {
        int mixed = sum ^ b;
        return (mixed << 3 | mixed >>> 29) * SUM_FACTOR;
    }

    /** The sectors, the count of their writes, and the power that may go at one. */
    private static final class Platter {
        private final int sectors;
        private final byte[] bytes;
        private int written;
        private int writesBeforeCut = NONE;
        private int tearAt;

        Platter(int sectors) {
            this.sectors = Math.max(LEAST_SECTORS, Math.min(MOST_SECTORS, sectors));
            this.bytes = new byte[this.sectors * SECTOR_BYTES];
        }

        boolean holds(int sector, int i) {
            return sector >= 0 && sector < sectors && i >= 0 && i < SECTOR_BYTES;
        }

        int look(int sector, int i) {
            return holds(sector, i) ? bytes[sector * SECTOR_BYTES + i] & 255 : 0;
        }

        void set(int sector, int i, int b) {
            if (holds(sector, i)) {
                bytes[sector * SECTOR_BYTES + i] = (byte) b;
            }
        }

        /** With a sign: numbers and generations are compared as row() and count() answer them. */
        int fourBytes(int sector, int i) {
            return look(sector, i) << 24
                    | look(sector, i + 1) << 16
                    | look(sector, i + 2) << 8
                    | look(sector, i + 3);
        }

        boolean isWhole(int sector) {
            if (look(sector, 0) == 0) {
                return false;
            }
            int sum = 0;
            for (int i = 0; i < SUMMED_BYTES; i++) {
                sum = sumWith(sum, look(sector, i));
            }
            return sum == fourBytes(sector, SUMMED_BYTES);
        }

        boolean isRow(int sector) {
            return isRowMark(look(sector, 0))
                    && look(sector, ROW_LENGTH) <= MOST_CONTENT
                    && isWhole(sector);
        }

        boolean isEvent(int sector) {
            return look(sector, 0) > EVENT_MARK;
        }

        boolean isHead(int sector) {
            int rows = look(sector, HEAD_KEPT);
            if (look(sector, 0) != HEAD_MARK || rows > MOST_KEPT || !isWhole(sector)) {
                return false;
            }
            for (int k = 0; k < rows; k++) {
                int listed = look(sector, HEAD_LIST + k);
                if (listed < HEAD_SECTORS || listed >= sectors) {
                    return false;
                }
            }
            return true;
        }

        void setCut(int n, int tear) {
            writesBeforeCut = n;
            tearAt = tear;
        }

        /** Answers whether power stayed. */
        boolean write(int sector, Image image) {
            boolean stays = writesBeforeCut != 0;
            int fresh = stays ? SECTOR_BYTES : tearAt;
            for (int i = 0; i < fresh; i++) {
                set(sector, i, image.look(i));
            }
            written++;
            if (writesBeforeCut != NONE) {
                // from 0 this comes to NONE: power goes once for each cut
                writesBeforeCut--;
            }
            return stays;
        }
    }

    /** The 64 bytes that the next write brings to a sector; one serves all writes in turn. */
    private static final class Image {
        private final byte[] bytes = new byte[SECTOR_BYTES];
        private int filled;

        int look(int i) {
            return i >= 0 && i < SECTOR_BYTES ? bytes[i] & 255 : 0;
        }

        void set(int i, int b) {
            if (i >= 0 && i < SECTOR_BYTES) {
                bytes[i] = (byte) b;
            }
        }

        void setFour(int i, int four) {
            set(i, four >>> 24);
            set(i + 1, four >>> 16);
            set(i + 2, four >>> 8);
            set(i + 3, four);
        }

        void begin(int mark) {
            filled = 0;
            append(mark);
        }

        void append(int b) {
            if (filled < SUMMED_BYTES) {
                set(filled, b);
                filled++;
            }
        }

        void appendFour(int four) {
            append(four >>> 24);
            append(four >>> 16);
            append(four >>> 8);
            append(four);
        }

        /** Zeros come behind what was appended, and the sum. */
        void seal() {
            int sum = 0;
            for (int i = 0; i < SUMMED_BYTES; i++) {
                if (i >= filled) {
                    set(i, 0);
                }
                sum = sumWith(sum, look(i));
            }
            setFour(SUMMED_BYTES, sum);
        }

        void copy(Platter platter, int sector) {
            for (int i = 0; i < SECTOR_BYTES; i++) {
                set(i, platter.look(sector, i));
            }
        }
    }

    /** The head that counts, as it was last written or read. */
    private static final class Head {
        private final int[] sectorOfRow = new int[MOST_KEPT];
        private final boolean[] used = new boolean[MOST_SECTORS];
        private int kept;
        private int generation;
        private int greatest;

        int sectorOf(int k) {
            return k >= 0 && k < kept && k < MOST_KEPT ? sectorOfRow[k] : NONE;
        }

        void place(int k, int sector) {
            if (k >= 0 && k < MOST_KEPT) {
                sectorOfRow[k] = sector;
            }
        }

        void keep(int sector) {
            if (kept < MOST_KEPT) {
                place(kept, sector);
                kept++;
            }
        }

        /** The least sector for rows below a bound that no kept row is in, or NONE. */
        int leastFree(int bound) {
            markUsed();
            for (int sector = HEAD_SECTORS; sector < bound && sector < MOST_SECTORS; sector++) {
                if (!used[sector]) {
                    return sector;
                }
            }
            return NONE;
        }

        private void markUsed() {
            for (int sector = 0; sector < MOST_SECTORS; sector++) {
                used[sector] = false;
            }
            for (int k = 0; k < kept; k++) {
                int sector = sectorOf(k);
                if (sector >= 0 && sector < MOST_SECTORS) {
                    used[sector] = true;
                }
            }
        }

        /** Which kept row has the greatest sector, or NONE. */
        int lastBySector() {
            int last = NONE;
            for (int k = 0; k < kept; k++) {
                if (sectorOf(k) > sectorOf(last)) {
                    last = k;
                }
            }
            return last;
        }

        void fill(Image image) {
            image.begin(HEAD_MARK);
            image.appendFour(generation);
            image.appendFour(greatest);
            image.append(kept);
            for (int k = 0; k < kept; k++) {
                image.append(sectorOf(k));
            }
            image.seal();
        }

        void read(Platter platter) {
            kept = 0;
            generation = 0;
            greatest = 0;
            boolean even = platter.isHead(0);
            boolean odd = platter.isHead(1);
            if (even && odd) {
                odd = generationIn(platter, 1) > generationIn(platter, 0);
            }
            if (even || odd) {
                readFrom(platter, odd ? 1 : 0);
            }
        }

        private static int generationIn(Platter platter, int sector) {
            return platter.fourBytes(sector, HEAD_GENERATION);
        }

        private void readFrom(Platter platter, int sector) {
            generation = generationIn(platter, sector);
            greatest = platter.fourBytes(sector, HEAD_GREATEST);
            int rows = Math.min(platter.look(sector, HEAD_KEPT), MOST_KEPT);
            for (int k = 0; k < rows; k++) {
                keep(platter.look(sector, HEAD_LIST + k));
            }
        }
    }

    /** The rows that wait, and behind them the row that is put together. */
    private static final class Waiting {
        private final byte[] content = new byte[WAITING_SLOTS * MOST_CONTENT];
        private final int[] lengths = new int[WAITING_SLOTS];
        private final int[] marks = new int[WAITING_SLOTS];
        private int ended;

        int openLength() {
            return lengthOf(ended);
        }

        private int lengthOf(int slot) {
            return slot >= 0 && slot < WAITING_SLOTS ? lengths[slot] : 0;
        }

        private byte byteOf(int slot, int i) {
            boolean isThere = slot >= 0 && slot < WAITING_SLOTS && i >= 0 && i < MOST_CONTENT;
            return isThere ? content[slot * MOST_CONTENT + i] : 0;
        }

        boolean append(int b) {
            int length = openLength();
            if (ended < 0 || ended >= WAITING_SLOTS || length < 0 || length >= MOST_CONTENT) {
                return false;
            }
            content[ended * MOST_CONTENT + length] = (byte) b;
            lengths[ended] = length + 1;
            return true;
        }

        void emptyOpenRow() {
            if (ended >= 0 && ended < WAITING_SLOTS) {
                lengths[ended] = 0;
            }
        }

        /** The last slot never closes: it is there for the row that finds no room. */
        void close(int mark) {
            if (ended >= 0 && ended < WAITING_SLOTS - 1) {
                marks[ended] = mark;
                ended++;
                emptyOpenRow();
            }
        }

        /** The row that is put together stays so, in the first slot. */
        void removeEnded() {
            int length = openLength();
            for (int i = 0; i < length && i < MOST_CONTENT; i++) {
                content[i] = byteOf(ended, i);
            }
            lengths[0] = length;
            ended = 0;
        }

        void fill(Image image, int slot, int number) {
            if (slot < 0 || slot >= WAITING_SLOTS) {
                return;
            }
            int length = lengths[slot];
            image.begin(marks[slot]);
            image.appendFour(number);
            image.append(length);
            for (int i = 0; i < length; i++) {
                image.append(byteOf(slot, i));
            }
            image.seal();
        }
    }
}
