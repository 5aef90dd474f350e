import java.util.Arrays;

/** Backups of a tree of files on tapes. What each call must do stands in the document, by promises. */
public final class TapeVault {
    private static final int NODES = 256;
    private static final int HIGHEST_NAME = 30000;
    private static final int FILE_OCTETS = 512;
    private static final int OCTETS_A_WRITE = 8;
    private static final int HIGHEST_LEVEL = 9;
    private static final int MOST_DUMPS = 100;
    private static final int MOST_BLOCKS = 4000;
    private static final int LEAST_CAPACITY = 4;
    private static final int MOST_CAPACITY = 1000;
    private static final int FIRST_CAPACITY = 64;

    private static final int NONE = 0;
    private static final int FILE = 1;
    private static final int DIRECTORY = 2;

    // What node() can be asked.
    private static final int KIND = 0;
    private static final int PARENT = 1;
    private static final int NAME = 2;
    private static final int SIZE = 3;
    private static final int STAMP = 4;
    private static final int LOST = 5;

    // What restore() answers.
    private static final int WHOLE = 0;
    private static final int WITH_LOSSES = 1;
    private static final int UNREADABLE = 2;

    // How BLOCKS are laid out: the octet that each kind begins with, and how much one of them holds.
    private static final int LABEL_MARK = 76;
    private static final int HEAD_MARK = 72;
    private static final int MAP_MARK = 77;
    private static final int INDEX_MARK = 73;
    private static final int FACTS_MARK = 78;
    private static final int WORDS_A_BLOCK = 8;
    private static final int OCTETS_A_BLOCK = 64;
    private static final int INDEXED_A_BLOCK = 31;
    private static final int ENTRIES_A_BLOCK = 21;
    private static final int OCTETS_AN_ENTRY = 3;
    private static final int FIRST_ROOM = 16;
    private static final int NOWHERE = -1;

    private final Tree tree;
    private final Volumes volumes;
    private final Writer writer;
    private final Restored copy;
    private final Dump[] dumps;
    private int dumpCount;

    public TapeVault() {
        tree = new Tree();
        volumes = new Volumes();
        writer = new Writer(tree, volumes);
        copy = new Restored(volumes);
        dumps = new Dump[MOST_DUMPS];
        startAnew(FIRST_CAPACITY);
    }

    public void begin(int blocks) throws IllegalArgumentException {
        if (blocks < LEAST_CAPACITY || blocks > MOST_CAPACITY) {
            throw new IllegalArgumentException();
        }
        startAnew(blocks);
    }

    public int make(int parent, int name, boolean directory)
            throws IllegalArgumentException, IllegalStateException, IndexOutOfBoundsException {
        Node home = tree.directoryAt(parent);
        if (home == null || !isName(name)) {
            throw new IllegalArgumentException();
        }
        if (home.childNamed(name) != null) {
            throw new IllegalStateException();
        }
        int number = tree.leastFree();
        if (number == NOWHERE) {
            throw new IndexOutOfBoundsException();
        }
        tree.add(number, directory ? DIRECTORY : FILE, home, name);
        return number;
    }

    public int write(int node, int at, long v) throws IllegalArgumentException, IndexOutOfBoundsException {
        Node file = tree.fileAt(node);
        if (file == null) {
            throw new IllegalArgumentException();
        }
        if (at < 0 || at > file.size || at > FILE_OCTETS - OCTETS_A_WRITE) {
            throw new IndexOutOfBoundsException();
        }
        tree.overwrite(file, at, v);
        return file.size;
    }

    public void cut(int node, int n) throws IllegalArgumentException, IndexOutOfBoundsException {
        Node file = tree.fileAt(node);
        if (file == null) {
            throw new IllegalArgumentException();
        }
        if (n < 0 || n > file.size) {
            throw new IndexOutOfBoundsException();
        }
        tree.shorten(file, n);
    }

    public void move(int node, int parent, int name)
            throws IllegalArgumentException, IllegalStateException, UnsupportedOperationException {
        Node moved = tree.nodeAt(node);
        Node home = tree.directoryAt(parent);
        if (moved == null || moved.isRoot() || home == null || !isName(name)) {
            throw new IllegalArgumentException();
        }
        Node holder = home.childNamed(name);
        if (holder != null && holder != moved) {
            throw new IllegalStateException();
        }
        if (home.isAtOrBelow(moved)) {
            throw new UnsupportedOperationException();
        }
        tree.rehome(moved, home, name);
    }

    public void remove(int node) throws IllegalArgumentException, IllegalStateException {
        Node removed = tree.nodeAt(node);
        if (removed == null || removed.isRoot()) {
            throw new IllegalArgumentException();
        }
        if (removed.kind == DIRECTORY && removed.size > 0) {
            throw new IllegalStateException();
        }
        tree.drop(removed);
    }

    public int dump(int level) throws IllegalArgumentException, IndexOutOfBoundsException {
        if (level < 0 || level > HIGHEST_LEVEL) {
            throw new IllegalArgumentException();
        }
        Dump made = new Dump(dumpCount, level, tree.time, latestBelow(level));
        made.changed = tree.changedAfter(made.since());
        made.first = volumes.filled;
        made.blocks = made.blocksBeforeNodes() + tree.blocksChangedAfter(made.since());
        if (dumpCount >= MOST_DUMPS || !volumes.hasRoomFor(made.blocks)) {
            throw new IndexOutOfBoundsException();
        }
        writer.writeAll(made);
        dumps[dumpCount] = made;
        dumpCount++;
        return made.number;
    }

    public void spoil(int volume, int block) throws IndexOutOfBoundsException {
        int position = volumes.positionOf(volume, block);
        if (position == NOWHERE) {
            throw new IndexOutOfBoundsException();
        }
        volumes.spoilAt(position);
    }

    public long tape(int volume, int block, int word)
            throws IllegalArgumentException, IndexOutOfBoundsException, IllegalStateException {
        if (word < 0 || word >= WORDS_A_BLOCK) {
            throw new IllegalArgumentException();
        }
        int position = volumes.positionOf(volume, block);
        if (position == NOWHERE) {
            throw new IndexOutOfBoundsException();
        }
        if (volumes.isSpoiledAt(position)) {
            throw new IllegalStateException();
        }
        return volumes.wordAt(position, word);
    }

    public int restore(int dump) throws IndexOutOfBoundsException {
        Dump last = dump < 0 || dump >= dumpCount ? null : dumps[dump];
        if (last == null) {
            throw new IndexOutOfBoundsException();
        }
        return copy.bringBack(last);
    }

    public int node(boolean restored, int node, int what)
            throws IllegalArgumentException, IllegalStateException, IndexOutOfBoundsException {
        if (what < KIND || what > LOST) {
            throw new IllegalArgumentException();
        }
        View view = viewOf(restored);
        if (!view.isThere()) {
            throw new IllegalStateException();
        }
        if (!isNumber(node)) {
            throw new IndexOutOfBoundsException();
        }
        return view.fact(node, what);
    }

    public int octet(boolean restored, int node, int k)
            throws IllegalStateException, IllegalArgumentException, IndexOutOfBoundsException {
        View view = viewOf(restored);
        if (!view.isThere()) {
            throw new IllegalStateException();
        }
        if (view.fact(node, KIND) != FILE) {
            throw new IllegalArgumentException();
        }
        if (k < 0 || k >= view.fact(node, SIZE)) {
            throw new IndexOutOfBoundsException();
        }
        return view.octetOf(node, k);
    }

    public int find(boolean restored, int directory, int name)
            throws IllegalStateException, IllegalArgumentException {
        View view = viewOf(restored);
        if (!view.isThere()) {
            throw new IllegalStateException();
        }
        if (view.fact(directory, KIND) != DIRECTORY) {
            throw new IllegalArgumentException();
        }
        return view.entryNamed(directory, name);
    }

    public int count(int what) throws IllegalArgumentException {
        switch (what) {
            case 0:
                return tree.time;
            case 1:
                return tree.nodeCount;
            case 2:
                return dumpCount;
            case 3:
                return volumes.volumesWritten();
            case 4:
                return volumes.written;
            case 5:
                return copy.chainLength;
            case 6:
                return copy.lostCount;
            case 7:
                return copy.readCount;
            default:
                throw new IllegalArgumentException();
        }
    }

    private void startAnew(int capacity) {
        tree.clear();
        volumes.clear(capacity);
        copy.clear();
        for (int i = 0; i < dumps.length; i++) {
            dumps[i] = null;
        }
        dumpCount = 0;
    }

    private View viewOf(boolean restored) {
        return restored ? copy : tree;
    }

    private Dump latestBelow(int level) {
        for (int i = dumpCount - 1; i >= 0; i--) {
            Dump dump = dumps[i];
            if (dump != null && dump.level < level) {
                return dump;
            }
        }
        return null;
    }

    private static boolean isName(int name) {
        return name >= 1 && name <= HIGHEST_NAME;
    }

    private static boolean isNumber(int node) {
        return node >= 0 && node < NODES;
    }

    private static int quotientUp(int count, int each) {
        return each <= 0 ? 0 : (count + each - 1) / each;
    }

    /** What node(), octet() and find() look at: THE TREE, or what was RESTORED. */
    private abstract static class View {
        abstract boolean isThere();

        /** What node() answers; NODES that are not 0..255 are none. */
        abstract int fact(int node, int what);

        /** An octet of a FILE that has it. */
        abstract int octetOf(int node, int k);

        abstract int entryNamed(int directory, int name);
    }

    /** A NODE of THE TREE; the entries of a DIRECTORY are a chain of NODES by their NAMES. */
    private static final class Node {
        private final int number;
        private final int kind;
        // null of NODE 0 alone, so that every way up has an end
        private Node parent;
        private int name;
        private int size;
        private int stamp;
        // null until something is written: most NODES never need the row
        private byte[] octets;
        private Node firstEntry;
        private Node nextEntry;

        Node(int number, int kind) {
            this.number = number;
            this.kind = kind;
        }

        boolean isRoot() {
            return parent == null;
        }

        int parentNumber() {
            return parent == null ? 0 : parent.number;
        }

        boolean isAtOrBelow(Node other) {
            for (Node above = this; above != null; above = above.parent) {
                if (above == other) {
                    return true;
                }
            }
            return false;
        }

        Node childNamed(int wanted) {
            for (Node entry = firstEntry; entry != null; entry = entry.nextEntry) {
                if (entry.name == wanted) {
                    return entry;
                }
            }
            return null;
        }

        int octetAt(int k) {
            return octets == null || k < 0 || k >= octets.length ? 0 : octets[k] & 255;
        }

        void setOctets(int at, long v) {
            if (octets == null) {
                octets = new byte[FILE_OCTETS];
            }
            for (int i = 0; i < OCTETS_A_WRITE && at + i < octets.length; i++) {
                octets[at + i] = (byte) (v >>> (8 * (OCTETS_A_WRITE - 1 - i)));
            }
            size = Math.max(size, at + OCTETS_A_WRITE);
        }

        /** How many BLOCKS it takes in a DUMP, its FACTS among them. */
        int blocks() {
            return 1 + quotientUp(size, kind == FILE ? OCTETS_A_BLOCK : ENTRIES_A_BLOCK);
        }

        void enter(Node home, int newName) {
            parent = home;
            name = newName;
            Node before = null;
            Node after = home.firstEntry;
            while (after != null && after.name < newName) {
                before = after;
                after = after.nextEntry;
            }
            nextEntry = after;
            if (before == null) {
                home.firstEntry = this;
            } else {
                before.nextEntry = this;
            }
            home.size++;
        }

        void leave(Node home) {
            Node before = null;
            Node entry = home.firstEntry;
            while (entry != null && entry != this) {
                before = entry;
                entry = entry.nextEntry;
            }
            if (before == null) {
                home.firstEntry = nextEntry;
            } else {
                before.nextEntry = nextEntry;
            }
            home.size--;
        }
    }

    /** THE TREE, with TIME and the STAMPS. */
    private static final class Tree extends View {
        private final Node[] nodes = new Node[NODES];
        private int nodeCount;
        private int time;

        void clear() {
            for (int i = 0; i < nodes.length; i++) {
                nodes[i] = null;
            }
            nodes[0] = new Node(0, DIRECTORY);
            nodeCount = 1;
            time = 0;
        }

        Node nodeAt(int number) {
            return isNumber(number) ? nodes[number] : null;
        }

        Node fileAt(int number) {
            Node node = nodeAt(number);
            return node != null && node.kind == FILE ? node : null;
        }

        Node directoryAt(int number) {
            Node node = nodeAt(number);
            return node != null && node.kind == DIRECTORY ? node : null;
        }

        int leastFree() {
            for (int i = 0; i < nodes.length; i++) {
                if (nodes[i] == null) {
                    return i;
                }
            }
            return NOWHERE;
        }

        void add(int number, int kind, Node home, int name) {
            time++;
            Node node = new Node(number, kind);
            node.enter(home, name);
            node.stamp = time;
            home.stamp = time;
            nodes[number] = node;
            nodeCount++;
        }

        void overwrite(Node file, int at, long v) {
            time++;
            file.setOctets(at, v);
            file.stamp = time;
        }

        void shorten(Node file, int size) {
            time++;
            file.size = size;
            file.stamp = time;
        }

        void rehome(Node node, Node home, int name) {
            time++;
            takeOut(node);
            node.enter(home, name);
            node.stamp = time;
            home.stamp = time;
        }

        void drop(Node node) {
            time++;
            takeOut(node);
            nodes[node.number] = null;
            nodeCount--;
        }

        private void takeOut(Node node) {
            Node home = node.parent;
            if (home != null) {
                node.leave(home);
                home.stamp = time;
            }
        }

        /** The NODE, if it is CHANGED after that TIME; else null. */
        Node changedNode(int number, int since) {
            Node node = nodeAt(number);
            return node != null && node.stamp > since ? node : null;
        }

        int changedAfter(int since) {
            int changed = 0;
            for (int i = 0; i < NODES; i++) {
                if (changedNode(i, since) != null) {
                    changed++;
                }
            }
            return changed;
        }

        int blocksChangedAfter(int since) {
            int blocks = 0;
            for (int i = 0; i < NODES; i++) {
                Node node = changedNode(i, since);
                if (node != null) {
                    blocks += node.blocks();
                }
            }
            return blocks;
        }

        boolean isThere() {
            return true;
        }

        int fact(int number, int what) {
            Node node = nodeAt(number);
            if (node == null) {
                return NONE;
            }
            switch (what) {
                case KIND:
                    return node.kind;
                case PARENT:
                    return node.parentNumber();
                case NAME:
                    return node.name;
                case SIZE:
                    return node.size;
                case STAMP:
                    return node.stamp;
                default:
                    return 0;
            }
        }

        int octetOf(int number, int k) {
            Node file = fileAt(number);
            return file == null ? 0 : file.octetAt(k);
        }

        int entryNamed(int directory, int name) {
            Node home = directoryAt(directory);
            Node entry = home == null ? null : home.childNamed(name);
            return entry == null ? NOWHERE : entry.number;
        }
    }

    /**
     * The BLOCKS that were written. A position counts all of them, LABELS too; a block, as DUMPS use
     * it, counts those that are no LABELS, so that what a DUMP wrote has numbers without gaps.
     */
    private static final class Volumes {
        // both grow as BLOCKS are written: most runs need few of the 4000
        private long[] words = new long[FIRST_ROOM * WORDS_A_BLOCK];
        private byte[] spoiled = new byte[FIRST_ROOM];
        private int capacity = FIRST_CAPACITY;
        private int written;
        private int filled;

        void clear(int newCapacity) {
            capacity = Math.max(newCapacity, LEAST_CAPACITY);
            written = 0;
            filled = 0;
        }

        int volumesWritten() {
            return quotientUp(written, capacity);
        }

        boolean hasRoomFor(int blocks) {
            int all = filled + blocks;
            return all + quotientUp(all, capacity - 1) <= MOST_BLOCKS;
        }

        /** A new BLOCK of noughts, which the next calls of store() fill. */
        void append() {
            if (written % capacity == 0) {
                appendPosition();
                store(0, 1, LABEL_MARK);
                store(1, 2, written / capacity);
            }
            appendPosition();
            filled++;
        }

        private void appendPosition() {
            if (written >= spoiled.length) {
                words = Arrays.copyOf(words, 2 * words.length);
                spoiled = Arrays.copyOf(spoiled, 2 * spoiled.length);
            }
            int from = written * WORDS_A_BLOCK;
            for (int i = from; i < from + WORDS_A_BLOCK; i++) {
                words[i] = 0;
            }
            spoiled[written] = 0;
            written++;
        }

        /** A number into octets of the latest BLOCK, joined to the bits that are there already. */
        void store(int at, int width, int value) {
            for (int i = 0; i < width; i++) {
                int octet = (value >>> (8 * (width - 1 - i))) & 255;
                int word = (written - 1) * WORDS_A_BLOCK + (at + i) / 8;
                if (word >= 0 && word < words.length) {
                    words[word] |= (long) octet << (56 - 8 * ((at + i) % 8));
                }
            }
        }

        int number(int block, int at, int width) {
            int position = positionOfBlock(block);
            int value = 0;
            for (int i = at; i < at + width; i++) {
                long shifted = wordAt(position, i / 8) >>> (56 - 8 * (i % 8));
                value = (value << 8) | (int) (shifted & 255);
            }
            return value;
        }

        long wordAt(int position, int word) {
            int i = position * WORDS_A_BLOCK + word;
            return i < 0 || i >= words.length ? 0 : words[i];
        }

        void spoilAt(int position) {
            if (position >= 0 && position < spoiled.length) {
                spoiled[position] = 1;
            }
        }

        boolean isSpoiledAt(int position) {
            return position >= 0 && position < spoiled.length && spoiled[position] != 0;
        }

        boolean isSpoiled(int block) {
            return isSpoiledAt(positionOfBlock(block));
        }

        private int positionOfBlock(int block) {
            int usable = capacity - 1;
            return block / usable * capacity + 1 + block % usable;
        }

        /** Where a BLOCK of a VOLUME is; NOWHERE if it was not written. */
        int positionOf(int volume, int block) {
            if (volume < 0 || volume >= MOST_BLOCKS || block < 0 || block >= capacity) {
                return NOWHERE;
            }
            int position = volume * capacity + block;
            return position < written ? position : NOWHERE;
        }
    }

    /** What is known of a DUMP besides its BLOCKS: where it is, and what later ones need of it. */
    private static final class Dump {
        private final int number;
        private final int level;
        private final int time;
        private final Dump base;
        private final int chainLength;
        private int changed;
        private int first;
        private int blocks;

        Dump(int number, int level, int time, Dump base) {
            this.number = number;
            this.level = level;
            this.time = time;
            this.base = base;
            this.chainLength = base == null ? 1 : base.chainLength + 1;
        }

        /** NODES with a STAMP above this are CHANGED; below all STAMPS without a BASE. */
        int since() {
            return base == null ? -1 : base.time;
        }

        int mapBlock() {
            return first + 1;
        }

        int firstIndexBlock() {
            return first + 2;
        }

        /** HEAD, MAP and INDEX: without one of these the DUMP can not be read. */
        int blocksBeforeNodes() {
            return 2 + quotientUp(changed, INDEXED_A_BLOCK);
        }

        Dump chained(int steps) {
            Dump dump = this;
            for (int i = 0; i < steps && dump.base != null; i++) {
                dump = dump.base;
            }
            return dump;
        }
    }

    /** Writes a DUMP of THE TREE behind what is on the VOLUMES. */
    private static final class Writer {
        private final Tree tree;
        private final Volumes volumes;

        Writer(Tree tree, Volumes volumes) {
            this.tree = tree;
            this.volumes = volumes;
        }

        void writeAll(Dump dump) {
            writeHead(dump);
            writeMap();
            writeIndex(dump);
            for (int i = 0; i < NODES; i++) {
                Node node = tree.changedNode(i, dump.since());
                if (node != null) {
                    writeFacts(node);
                    writeOctets(node);
                    writeEntries(node);
                }
            }
        }

        private void writeHead(Dump dump) {
            volumes.append();
            volumes.store(0, 1, HEAD_MARK);
            volumes.store(1, 1, dump.level);
            volumes.store(2, 2, dump.number);
            volumes.store(4, 4, dump.time);
            volumes.store(8, 2, dump.base == null ? 0 : dump.base.number + 1);
            volumes.store(10, 2, dump.changed);
        }

        private void writeMap() {
            volumes.append();
            volumes.store(0, 1, MAP_MARK);
            for (int i = 0; i < NODES; i++) {
                if (tree.nodeAt(i) != null) {
                    volumes.store(1 + i / 8, 1, 1 << (7 - i % 8));
                }
            }
        }

        private void writeIndex(Dump dump) {
            int indexed = 0;
            for (int i = 0; i < NODES; i++) {
                Node node = tree.changedNode(i, dump.since());
                if (node != null) {
                    if (indexed % INDEXED_A_BLOCK == 0) {
                        volumes.append();
                        volumes.store(0, 1, INDEX_MARK);
                        volumes.store(1, 1, Math.min(INDEXED_A_BLOCK, dump.changed - indexed));
                    }
                    int at = 2 + 2 * (indexed % INDEXED_A_BLOCK);
                    volumes.store(at, 1, i);
                    volumes.store(at + 1, 1, node.blocks());
                    indexed++;
                }
            }
        }

        private void writeFacts(Node node) {
            volumes.append();
            volumes.store(0, 1, FACTS_MARK);
            volumes.store(1, 1, node.number);
            volumes.store(2, 1, node.kind);
            volumes.store(3, 2, node.name);
            volumes.store(5, 1, node.parentNumber());
            volumes.store(6, 2, node.size);
            volumes.store(8, 4, node.stamp);
        }

        private void writeOctets(Node node) {
            if (node.kind != FILE) {
                return;
            }
            for (int k = 0; k < node.size; k++) {
                if (k % OCTETS_A_BLOCK == 0) {
                    volumes.append();
                }
                volumes.store(k % OCTETS_A_BLOCK, 1, node.octetAt(k));
            }
        }

        private void writeEntries(Node node) {
            int inBlock = ENTRIES_A_BLOCK;
            for (Node entry = node.firstEntry; entry != null; entry = entry.nextEntry) {
                if (inBlock == ENTRIES_A_BLOCK) {
                    volumes.append();
                    inBlock = 0;
                }
                volumes.store(OCTETS_AN_ENTRY * inBlock, 2, entry.name);
                volumes.store(OCTETS_AN_ENTRY * inBlock + 2, 1, entry.number);
                inBlock++;
            }
        }
    }

    /**
     * What was RESTORED. BLOCKS are never written twice, so of each NODE it is enough to keep where
     * its FACTS are, and which BLOCKS behind them could not be read then (they may be SPOILED later).
     */
    private static final class Restored extends View {
        private final Volumes volumes;
        private final int[] facts = new int[NODES];
        // bit i: BLOCK i behind the FACTS; a NODE has at most 13 of them
        private final int[] missing = new int[NODES];
        private final boolean[] lost = new boolean[NODES];
        private boolean there;
        private int chainLength;
        private int lostCount;
        private int readCount;

        Restored(Volumes volumes) {
            this.volumes = volumes;
        }

        void clear() {
            there = false;
            chainLength = 0;
            lostCount = 0;
            readCount = 0;
            for (int i = 0; i < NODES; i++) {
                setNone(i);
            }
        }

        private void setNone(int node) {
            facts[node] = NOWHERE;
            missing[node] = 0;
            lost[node] = false;
        }

        int bringBack(Dump last) {
            clear();
            chainLength = last.chainLength;
            for (int steps = 0; steps < chainLength; steps++) {
                if (!isReadable(last.chained(steps))) {
                    return UNREADABLE;
                }
            }
            for (int steps = chainLength - 1; steps >= 0; steps--) {
                Dump dump = last.chained(steps);
                dropUnmapped(dump);
                takeChanged(dump);
                readCount += wholeBlocks(dump);
            }
            there = true;
            lostCount = countLost();
            return lostCount == 0 ? WHOLE : WITH_LOSSES;
        }

        private boolean isReadable(Dump dump) {
            for (int i = 0; i < dump.blocksBeforeNodes(); i++) {
                if (volumes.isSpoiled(dump.first + i)) {
                    return false;
                }
            }
            return true;
        }

        private int wholeBlocks(Dump dump) {
            int whole = 0;
            for (int i = 0; i < dump.blocks; i++) {
                if (!volumes.isSpoiled(dump.first + i)) {
                    whole++;
                }
            }
            return whole;
        }

        private void dropUnmapped(Dump dump) {
            for (int i = 0; i < NODES; i++) {
                int octet = volumes.number(dump.mapBlock(), 1 + i / 8, 1);
                if (((octet >> (7 - i % 8)) & 1) == 0) {
                    setNone(i);
                }
            }
        }

        private void takeChanged(Dump dump) {
            int block = dump.first + dump.blocksBeforeNodes();
            for (int i = 0; i < dump.changed; i++) {
                int index = dump.firstIndexBlock() + i / INDEXED_A_BLOCK;
                int at = 2 + 2 * (i % INDEXED_A_BLOCK);
                int blocks = volumes.number(index, at + 1, 1);
                takeNode(volumes.number(index, at, 1), block, blocks);
                block += blocks;
            }
        }

        private void takeNode(int node, int block, int blocks) {
            if (!isNumber(node)) {
                return;
            }
            if (volumes.isSpoiled(block)) {
                lost[node] = true;
                return;
            }
            facts[node] = block;
            missing[node] = 0;
            for (int i = 0; i < blocks - 1; i++) {
                if (volumes.isSpoiled(block + 1 + i)) {
                    missing[node] |= 1 << i;
                }
            }
            lost[node] = missing[node] != 0;
        }

        private int countLost() {
            int count = 0;
            for (int i = 0; i < NODES; i++) {
                if (lost[i]) {
                    count++;
                }
            }
            return count;
        }

        boolean isThere() {
            return there;
        }

        int fact(int node, int what) {
            if (!isNumber(node)) {
                return NONE;
            }
            if (what == LOST) {
                return lost[node] ? 1 : 0;
            }
            int block = facts[node];
            if (block == NOWHERE) {
                return NONE;
            }
            switch (what) {
                case KIND:
                    return volumes.number(block, 2, 1);
                case PARENT:
                    return volumes.number(block, 5, 1);
                case NAME:
                    return volumes.number(block, 3, 2);
                case SIZE:
                    return volumes.number(block, 6, 2);
                case STAMP:
                    return volumes.number(block, 8, 4);
                default:
                    return 0;
            }
        }

        private boolean wasRead(int node, int i) {
            return ((missing[node] >> i) & 1) == 0;
        }

        int octetOf(int node, int k) {
            if (!isNumber(node) || facts[node] == NOWHERE) {
                return 0;
            }
            int i = k / OCTETS_A_BLOCK;
            return wasRead(node, i) ? volumes.number(facts[node] + 1 + i, k % OCTETS_A_BLOCK, 1) : 0;
        }

        int entryNamed(int directory, int name) {
            if (!isNumber(directory) || facts[directory] == NOWHERE) {
                return NOWHERE;
            }
            int entries = fact(directory, SIZE);
            for (int e = 0; e < entries; e++) {
                int i = e / ENTRIES_A_BLOCK;
                int block = facts[directory] + 1 + i;
                int at = OCTETS_AN_ENTRY * (e % ENTRIES_A_BLOCK);
                if (wasRead(directory, i) && volumes.number(block, at, 2) == name) {
                    return volumes.number(block, at + 2, 1);
                }
            }
            return NOWHERE;
        }
    }
}
