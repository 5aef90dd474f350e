import java.util.ArrayList;
import java.util.List;
import java.util.Random;
import java.util.TreeMap;
import java.util.function.Consumer;
import java.util.function.ToLongFunction;

/**
 * "out of the blocks alone it is restored as it was at any dump": the test reads the octets that tape()
 * answers and RESTORES each DUMP out of them by Terms 3. The program must have RESTORED the same; and as
 * long as nothing is SPOILED that must be THE TREE as it was at that DUMP.
 */
public final class BlocksAloneTest {
    private static final int CALLS_OF_AN_OBJECT = 512;
    private static final int CHANGES = 200;
    private static final int NODES = 256;
    private static final int HIGHEST_NAME = 300;

    /** What Terms 3 says of one NODE, read from BLOCKS. */
    private static final class Read {
        final int[] facts = new int[5];
        int[] octets = {};
        final TreeMap<Integer, Integer> entries = new TreeMap<>();
    }

    /** An object is used for 512 calls at most: another one is brought to the same state then. */
    private static final class Asked {
        private final List<Consumer<TapeVault>> script;
        private TapeVault vault;
        private int calls = CALLS_OF_AN_OBJECT;

        Asked(List<Consumer<TapeVault>> script) {
            this.script = new ArrayList<>(script);
        }

        long ask(ToLongFunction<TapeVault> question) {
            if (calls >= CALLS_OF_AN_OBJECT) {
                vault = new TapeVault();
                calls = 0;
                for (Consumer<TapeVault> deed : script) {
                    deed.accept(vault);
                    calls += 2; // a write asks how many octets there are
                }
            }
            calls++;
            return question.applyAsLong(vault);
        }
    }

    private final List<Consumer<TapeVault>> script = new ArrayList<>();
    private final Random random;
    private final int volume;
    // how long the script was when a DUMP had been made
    private final List<Integer> scriptAtDump = new ArrayList<>();
    // by the order in which they were written, without LABELS; null: it is SPOILED
    private final List<int[]> blocks = new ArrayList<>();
    private final List<Integer> heads = new ArrayList<>();
    private final List<Integer> mayBeSpoiled = new ArrayList<>();
    private final Read[] nodes = new Read[NODES];
    private final boolean[] lost = new boolean[NODES];
    private int whole;
    private int chain;

    private BlocksAloneTest(int seed) {
        random = new Random(seed);
        volume = new int[] {4, 5, 12, 64}[seed % 4];
    }

    public static void main(String[] args) {
        for (int seed = 0; seed < 24; seed++) {
            int run = seed;
            Check.sentence("What it is, seed " + seed, "out of the blocks alone it is restored as it was at any dump",
                    () -> new BlocksAloneTest(run).runAll());
        }
        Check.end();
    }

    private void runAll() {
        script.add(x -> x.begin(volume));
        for (int i = 0; i < CHANGES; i++) {
            change(i);
        }
        readTapes();
        compareDumps();
        compareWithTrees();
        spoilSome();
        readTapes();
        compareDumps();
    }

    /** Calls that may throw: then they change nothing, and that is well, too. */
    private void change(int i) {
        int node = random.nextInt(45);
        int parent = random.nextInt(3) == 0 ? random.nextInt(45) : 0;
        int name = 1 + random.nextInt(HIGHEST_NAME);
        int file = 1 + random.nextInt(6); // few, so that some grow over several BLOCKS
        long v = random.nextLong();
        int level = random.nextInt(10);
        int dice = random.nextInt(20);
        if (i % 25 == 24) {
            step(x -> x.dump(level));
            scriptAtDump.add(script.size());
        } else if (dice < 8) {
            step(x -> x.make(parent, name, level < 3));
        } else if (dice < 15) {
            step(x -> x.write(file, x.node(false, file, 3), v));
        } else if (dice < 16) {
            step(x -> x.cut(file, level));
        } else if (dice < 18) {
            step(x -> x.move(node, parent, name));
        } else {
            step(x -> x.remove(7 + node));
        }
    }

    private void step(Consumer<TapeVault> deed) {
        script.add(x -> Check.told(() -> deed.accept(x)));
    }

    private void readTapes() {
        blocks.clear();
        Asked asked = new Asked(script);
        int written = (int) asked.ask(x -> x.count(4));
        for (int place = 0; place < written; place++) {
            if (place % volume != 0) {
                blocks.add(readBlock(asked, place / volume, place % volume));
            }
        }
    }

    private static int[] readBlock(Asked asked, int tape, int block) {
        int[] octets = new int[64];
        for (int w = 0; w < 8; w++) {
            int word = w;
            try {
                long eight = asked.ask(x -> x.tape(tape, block, word));
                for (int i = 0; i < 8; i++) {
                    octets[8 * w + i] = (int) (eight >>> (56 - 8 * i) & 255);
                }
            } catch (IllegalStateException e) {
                return null;
            }
        }
        return octets;
    }

    private int number(int block, int at, int width) {
        int value = 0;
        for (int i = at; i < at + width; i++) {
            value = value * 256 + blocks.get(block)[i];
        }
        return value;
    }

    private int firstFacts(int head) {
        return head + 2 + (number(head, 10, 2) + 30) / 31;
    }

    /** Where the next HEAD is, by the INDEX of this one. */
    private int behind(int head) {
        int block = firstFacts(head);
        for (int i = 0; i < number(head, 10, 2); i++) {
            block += number(head + 2 + i / 31, 3 + 2 * (i % 31), 1);
        }
        return block;
    }

    private void findHeads() {
        heads.clear();
        mayBeSpoiled.clear();
        for (int head = 0; head < blocks.size(); head = behind(head)) {
            Check.same("a HEAD begins with", number(head, 0, 1), 72);
            Check.same("a HEAD's number", number(head, 2, 2), heads.size());
            heads.add(head);
            for (int block = firstFacts(head); block < behind(head); block++) {
                mayBeSpoiled.add(block);
            }
        }
    }

    private void spoilSome() {
        for (int i = 0; i < 12; i++) {
            int block = mayBeSpoiled.get(random.nextInt(mayBeSpoiled.size()));
            int place = block / (volume - 1) * volume + 1 + block % (volume - 1);
            script.add(x -> x.spoil(place / volume, place % volume));
        }
        script.add(x -> x.spoil(0, 0));
    }

    private void compareDumps() {
        findHeads();
        Check.same("DUMPS on the VOLUMES", heads.size(), scriptAtDump.size());
        for (int d = 0; d < heads.size(); d++) {
            int dump = d;
            restoreOutOfBlocks(dump);
            List<Consumer<TapeVault>> withRestore = new ArrayList<>(script);
            withRestore.add(x -> x.restore(dump));
            compareRestored(dump, new Asked(withRestore));
        }
    }

    private void compareWithTrees() {
        for (int dump = 0; dump < heads.size(); dump++) {
            restoreOutOfBlocks(dump);
            Asked asked = new Asked(script.subList(0, scriptAtDump.get(dump)));
            for (int n = 0; n < NODES; n++) {
                compareNode("behind dump() " + dump + ", ", asked, false, n);
            }
        }
    }

    private void forget(int node) {
        nodes[node] = null;
        lost[node] = false;
    }

    private void restoreOutOfBlocks(int dump) {
        for (int n = 0; n < NODES; n++) {
            forget(n);
        }
        whole = 0;
        chain = 0;
        readChain(heads.get(dump));
    }

    /** The BASE first, as deep as there are levels. */
    private void readChain(int head) {
        int base = number(head, 8, 2);
        if (base != 0) {
            readChain(heads.get(base - 1));
        }
        chain++;
        for (int block = head; block < behind(head); block++) {
            whole += blocks.get(block) == null ? 0 : 1;
        }
        for (int n = 0; n < NODES; n++) {
            if ((number(head + 1, 1 + n / 8, 1) >> (7 - n % 8) & 1) == 0) {
                forget(n);
            }
        }
        int block = firstFacts(head);
        for (int i = 0; i < number(head, 10, 2); i++) {
            int index = head + 2 + i / 31;
            int many = number(index, 3 + 2 * (i % 31), 1);
            readNode(number(index, 2 + 2 * (i % 31), 1), block, many);
            block += many;
        }
    }

    private void readNode(int node, int block, int many) {
        lost[node] = blocks.get(block) == null;
        if (lost[node]) {
            return;
        }
        Check.same("FACTS begin with", number(block, 0, 1), 78);
        Check.same("FACTS tell the number", number(block, 1, 1), node);
        Read read = new Read();
        read.facts[0] = number(block, 2, 1);
        read.facts[1] = number(block, 5, 1);
        read.facts[2] = number(block, 3, 2);
        read.facts[3] = number(block, 6, 2);
        read.facts[4] = number(block, 8, 4);
        read.octets = new int[read.facts[0] == 1 ? read.facts[3] : 0];
        nodes[node] = read;
        for (int i = 1; i < many; i++) {
            if (blocks.get(block + i) == null) {
                lost[node] = true;
            } else if (read.facts[0] == 1) {
                readOctets(read, block + i, 64 * (i - 1));
            } else {
                readEntries(read, block + i, 21 * (i - 1));
            }
        }
    }

    private void readOctets(Read read, int block, int from) {
        for (int k = from; k < Math.min(from + 64, read.octets.length); k++) {
            read.octets[k] = number(block, k - from, 1);
        }
    }

    private void readEntries(Read read, int block, int from) {
        for (int e = from; e < Math.min(from + 21, read.facts[3]); e++) {
            read.entries.put(number(block, 3 * (e - from), 2), number(block, 3 * (e - from) + 2, 1));
        }
    }

    private void compareRestored(int dump, Asked asked) {
        String place = "restore(" + dump + "), then ";
        int many = 0;
        for (int n = 0; n < NODES; n++) {
            many += lost[n] ? 1 : 0;
            compareNode(place, asked, true, n);
        }
        Check.same("restore(" + dump + ")", asked.ask(x -> x.restore(dump)), many == 0 ? 0L : 1L);
        Check.same(place + "count(5)", asked.ask(x -> x.count(5)), (long) chain);
        Check.same(place + "count(6)", asked.ask(x -> x.count(6)), (long) many);
        Check.same(place + "count(7)", asked.ask(x -> x.count(7)), (long) whole);
    }

    private void compareNode(String place, Asked asked, boolean restored, int node) {
        Read read = nodes[node] == null ? new Read() : nodes[node];
        String asking = "(" + restored + ", " + node + ", ";
        for (int w = 0; w < 5; w++) {
            int what = w;
            Check.same(place + "node" + asking + what + ")",
                    asked.ask(x -> x.node(restored, node, what)), (long) read.facts[what]);
        }
        Check.same(place + "node" + asking + "5)", asked.ask(x -> x.node(restored, node, 5)), lost[node] ? 1L : 0L);
        for (int i = 0; i < read.octets.length; i++) {
            int k = i;
            Check.same(place + "octet" + asking + k + ")",
                    asked.ask(x -> x.octet(restored, node, k)), (long) read.octets[k]);
        }
        for (int i = 1; i <= HIGHEST_NAME && read.facts[0] == 2; i++) {
            int name = i;
            Check.same(place + "find" + asking + name + ")",
                    asked.ask(x -> x.find(restored, node, name)), (long) read.entries.getOrDefault(name, -1));
        }
    }
}
