import java.util.ArrayList;
import java.util.HashMap;
import java.util.List;
import java.util.Map;
import java.util.TreeMap;

/**
 * The document once more, as plainly as it goes: maps and whole copies, with no care for room or
 * speed. RandomRunsTest holds the program against it.
 */
final class Model {
    private static final class Item {
        int kind;
        int parent;
        int name;
        int stamp;
        int told; // how many octets or entries the FACTS tell
        int[] octets = new int[0];
        TreeMap<Integer, Integer> entries = new TreeMap<>();

        int size() {
            return kind == 1 ? octets.length : entries.size();
        }
    }

    private static final class Saved {
        int level;
        int time;
        int base; // -1 none
        int head;
        int map;
        List<Integer> index = new ArrayList<>();
        List<int[]> nodes = new ArrayList<>(); // number, then the places of its BLOCKS
        List<Integer> all = new ArrayList<>();
    }

    private TreeMap<Integer, Item> tree;
    private int time;
    private int capacity;
    private List<int[]> blocks; // LABELS too
    private List<Boolean> spoiled;
    private List<Saved> dumps;
    private Map<Integer, Item> restored; // null: nothing is
    private boolean[] lost;
    private int chainCount;
    private int lostCount;
    private int readCount;

    Model() {
        begin(64);
    }

    void begin(int size) {
        if (size < 4 || size > 1000) {
            throw new IllegalArgumentException();
        }
        capacity = size;
        tree = new TreeMap<>();
        Item root = new Item();
        root.kind = 2;
        tree.put(0, root);
        time = 0;
        blocks = new ArrayList<>();
        spoiled = new ArrayList<>();
        dumps = new ArrayList<>();
        restored = null;
        chainCount = 0;
        lostCount = 0;
        readCount = 0;
    }

    private void mustBePlace(int parent, int name) {
        if (!tree.containsKey(parent) || tree.get(parent).kind != 2 || name < 1 || name > 30000) {
            throw new IllegalArgumentException();
        }
    }

    private void touch(int... numbers) {
        for (int n : numbers) {
            tree.get(n).stamp = time;
        }
    }

    int make(int parent, int name, boolean directory) {
        mustBePlace(parent, name);
        if (tree.get(parent).entries.containsKey(name)) {
            throw new IllegalStateException();
        }
        if (tree.size() == 256) {
            throw new IndexOutOfBoundsException();
        }
        int number = 0;
        while (tree.containsKey(number)) {
            number++;
        }
        time++;
        Item item = new Item();
        item.kind = directory ? 2 : 1;
        item.parent = parent;
        item.name = name;
        tree.put(number, item);
        tree.get(parent).entries.put(name, number);
        touch(number, parent);
        return number;
    }

    private Item file(int node) {
        Item item = tree.get(node);
        if (item == null || item.kind != 1) {
            throw new IllegalArgumentException();
        }
        return item;
    }

    int write(int node, int at, long v) {
        Item item = file(node);
        if (at < 0 || at > item.octets.length || at > 504) {
            throw new IndexOutOfBoundsException();
        }
        time++;
        item.octets = java.util.Arrays.copyOf(item.octets, Math.max(item.octets.length, at + 8));
        for (int i = 7; i >= 0; i--) {
            item.octets[at + i] = (int) (v & 255);
            v >>= 8;
        }
        touch(node);
        return item.octets.length;
    }

    void cut(int node, int n) {
        Item item = file(node);
        if (n < 0 || n > item.octets.length) {
            throw new IndexOutOfBoundsException();
        }
        time++;
        item.octets = java.util.Arrays.copyOf(item.octets, n);
        touch(node);
    }

    void move(int node, int parent, int name) {
        Item item = tree.get(node);
        if (item == null || node == 0) {
            throw new IllegalArgumentException();
        }
        mustBePlace(parent, name);
        Integer there = tree.get(parent).entries.get(name);
        if (there != null && there != node) {
            throw new IllegalStateException();
        }
        for (int up = parent; up != 0; up = tree.get(up).parent) {
            if (up == node) {
                throw new UnsupportedOperationException();
            }
        }
        time++;
        tree.get(item.parent).entries.remove(item.name);
        tree.get(parent).entries.put(name, node);
        touch(node, item.parent, parent);
        item.parent = parent;
        item.name = name;
    }

    void remove(int node) {
        Item item = tree.get(node);
        if (item == null || node == 0) {
            throw new IllegalArgumentException();
        }
        if (!item.entries.isEmpty()) {
            throw new IllegalStateException();
        }
        time++;
        tree.get(item.parent).entries.remove(item.name);
        touch(item.parent);
        tree.remove(node);
    }

    /** Numbers and how many octets each takes, in turn. */
    private static int[] block(int... numbersAndWidths) {
        int[] octets = new int[64];
        int at = 0;
        for (int i = 0; i < numbersAndWidths.length; i += 2) {
            at = set(octets, at, numbersAndWidths[i], numbersAndWidths[i + 1]);
        }
        return octets;
    }

    private static int set(int[] octets, int at, int number, int width) {
        for (int i = width - 1; i >= 0; i--) {
            octets[at + i] = number & 255;
            number >>= 8;
        }
        return at + width;
    }

    private static List<int[]> blocksOf(int number, Item item) {
        List<int[]> result = new ArrayList<>();
        result.add(block(78, 1, number, 1, item.kind, 1, item.name, 2, item.parent, 1, item.size(), 2, item.stamp, 4));
        int[] current = null;
        for (int k = 0; k < item.octets.length; k++) {
            if (k % 64 == 0) {
                current = new int[64];
                result.add(current);
            }
            current[k % 64] = item.octets[k];
        }
        int e = 0;
        for (Map.Entry<Integer, Integer> entry : item.entries.entrySet()) {
            if (e % 21 == 0) {
                current = new int[64];
                result.add(current);
            }
            set(current, e % 21 * 3, entry.getKey(), 2);
            set(current, e % 21 * 3 + 2, entry.getValue(), 1);
            e++;
        }
        return result;
    }

    int dump(int level) {
        if (level < 0 || level > 9) {
            throw new IllegalArgumentException();
        }
        Saved saved = new Saved();
        saved.level = level;
        saved.time = time;
        saved.base = -1;
        for (int d = 0; d < dumps.size(); d++) {
            if (dumps.get(d).level < level) {
                saved.base = d;
            }
        }
        List<Integer> changed = new ArrayList<>();
        for (int n : tree.keySet()) {
            if (saved.base < 0 || tree.get(n).stamp > dumps.get(saved.base).time) {
                changed.add(n);
            }
        }
        List<int[]> out = new ArrayList<>();
        out.add(block(72, 1, level, 1, dumps.size(), 2, time, 4, saved.base + 1, 2, changed.size(), 2));
        int[] map = block(77, 1);
        for (int n : tree.keySet()) {
            map[1 + n / 8] += 128 >> n % 8;
        }
        out.add(map);
        for (int from = 0; from < changed.size(); from += 31) {
            List<Integer> part = changed.subList(from, Math.min(changed.size(), from + 31));
            int[] index = block(73, 1, part.size(), 1);
            int at = 2;
            for (int n : part) {
                at = set(index, at, n, 1);
                at = set(index, at, blocksOf(n, tree.get(n)).size(), 1);
            }
            out.add(index);
        }
        int before = out.size();
        for (int n : changed) {
            out.addAll(blocksOf(n, tree.get(n)));
        }
        mustFit(out.size());
        List<Integer> places = new ArrayList<>();
        for (int[] octets : out) {
            places.add(lay(octets));
        }
        saved.all = places;
        saved.head = places.get(0);
        saved.map = places.get(1);
        saved.index = places.subList(2, before);
        int at = before;
        for (int n : changed) {
            int size = blocksOf(n, tree.get(n)).size();
            int[] row = new int[1 + size];
            row[0] = n;
            for (int i = 0; i < size; i++) {
                row[1 + i] = places.get(at + i);
            }
            saved.nodes.add(row);
            at += size;
        }
        dumps.add(saved);
        return dumps.size() - 1;
    }

    private void mustFit(int more) {
        int would = blocks.size();
        for (int i = 0; i < more; i++) {
            would += would % capacity == 0 ? 2 : 1;
        }
        if (would > 4000 || dumps.size() == 100) {
            throw new IndexOutOfBoundsException();
        }
    }

    private int lay(int[] octets) {
        if (blocks.size() % capacity == 0) {
            blocks.add(block(76, 1, blocks.size() / capacity, 2));
            spoiled.add(false);
        }
        blocks.add(octets);
        spoiled.add(false);
        return blocks.size() - 1;
    }

    private int place(int volume, int block) {
        if (volume < 0 || block < 0 || block >= capacity || (long) volume * capacity + block >= blocks.size()) {
            throw new IndexOutOfBoundsException();
        }
        return volume * capacity + block;
    }

    void spoil(int volume, int block) {
        spoiled.set(place(volume, block), true);
    }

    long tape(int volume, int block, int word) {
        if (word < 0 || word > 7) {
            throw new IllegalArgumentException();
        }
        int place = place(volume, block);
        if (spoiled.get(place)) {
            throw new IllegalStateException();
        }
        long v = 0;
        for (int k = 8 * word; k < 8 * word + 8; k++) {
            v = v * 256 + blocks.get(place)[k];
        }
        return v;
    }

    int restore(int dump) {
        if (dump < 0 || dump >= dumps.size()) {
            throw new IndexOutOfBoundsException();
        }
        List<Saved> chain = new ArrayList<>();
        for (int d = dump; d >= 0; d = dumps.get(d).base) {
            chain.add(0, dumps.get(d));
        }
        restored = null;
        chainCount = chain.size();
        lostCount = 0;
        readCount = 0;
        for (Saved saved : chain) {
            boolean bad = spoiled.get(saved.head) || spoiled.get(saved.map);
            for (int i : saved.index) {
                bad |= spoiled.get(i);
            }
            if (bad) {
                return 2;
            }
        }
        restored = new HashMap<>();
        lost = new boolean[256];
        for (Saved saved : chain) {
            lay(saved);
        }
        for (boolean one : lost) {
            lostCount += one ? 1 : 0;
        }
        return lostCount > 0 ? 1 : 0;
    }

    private void lay(Saved saved) {
        for (int n = 0; n < 256; n++) {
            if ((blocks.get(saved.map)[1 + n / 8] & 128 >> n % 8) == 0) {
                restored.remove(n);
                lost[n] = false;
            }
        }
        for (int[] row : saved.nodes) {
            lost[row[0]] = true;
            if (!spoiled.get(row[1])) {
                restored.put(row[0], read(row));
            }
        }
        for (int place : saved.all) {
            readCount += spoiled.get(place) ? 0 : 1;
        }
    }

    private Item read(int[] row) {
        int[] facts = blocks.get(row[1]);
        Item item = new Item();
        item.kind = facts[2];
        item.name = facts[3] * 256 + facts[4];
        item.parent = facts[5];
        item.told = facts[6] * 256 + facts[7];
        item.stamp = ((facts[8] * 256 + facts[9]) * 256 + facts[10]) * 256 + facts[11];
        item.octets = new int[item.kind == 1 ? item.told : 0];
        lost[row[0]] = false;
        for (int b = 2; b < row.length; b++) {
            if (spoiled.get(row[b])) {
                lost[row[0]] = true;
                continue;
            }
            int[] in = blocks.get(row[b]);
            for (int k = 0; k < 64 && (b - 2) * 64 + k < item.octets.length; k++) {
                item.octets[(b - 2) * 64 + k] = in[k];
            }
            for (int e = 0; item.kind == 2 && e < 21 && (b - 2) * 21 + e < item.told; e++) {
                item.entries.put(in[3 * e] * 256 + in[3 * e + 1], in[3 * e + 2]);
            }
        }
        return item;
    }

    private Map<Integer, Item> view(boolean fromTape) {
        if (fromTape && restored == null) {
            throw new IllegalStateException();
        }
        return fromTape ? restored : tree;
    }

    int node(boolean fromTape, int node, int what) {
        if (what < 0 || what > 5) {
            throw new IllegalArgumentException();
        }
        Map<Integer, Item> view = view(fromTape);
        if (node < 0 || node > 255) {
            throw new IndexOutOfBoundsException();
        }
        if (what == 5) {
            return fromTape && lost[node] ? 1 : 0;
        }
        Item item = view.get(node);
        if (item == null) {
            return 0;
        }
        int size = fromTape ? item.told : item.size();
        return new int[] {item.kind, item.parent, item.name, size, item.stamp}[what];
    }

    int octet(boolean fromTape, int node, int k) {
        Item item = view(fromTape).get(node);
        if (item == null || item.kind != 1) {
            throw new IllegalArgumentException();
        }
        if (k < 0 || k >= item.octets.length) {
            throw new IndexOutOfBoundsException();
        }
        return item.octets[k];
    }

    int find(boolean fromTape, int directory, int name) {
        Item item = view(fromTape).get(directory);
        if (item == null || item.kind != 2) {
            throw new IllegalArgumentException();
        }
        return item.entries.getOrDefault(name, -1);
    }

    int count(int what) {
        if (what < 0 || what > 7) {
            throw new IllegalArgumentException();
        }
        int volumes = (blocks.size() + capacity - 1) / capacity;
        return new int[] {time, tree.size(), dumps.size(), volumes, blocks.size(), chainCount, lostCount, readCount}[what];
    }
}
