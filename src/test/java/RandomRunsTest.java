import java.util.Random;

/**
 * Runs of calls by seeds, so the same each time: the program must answer all that Model answers. A run uses
 * its object for more than 512 calls, behind which the document leaves the answers free: the program counts
 * no calls, so one object can be asked for all that it holds. BlocksAloneTest keeps to the 512.
 */
public final class RandomRunsTest {
    private static final int[] ODD = {-1, 256, 30001, 505, 513, 1001, Integer.MIN_VALUE, Integer.MAX_VALUE, 715827883};

    private final Random random;
    private final TapeVault vault = new TapeVault();
    private final Model model = new Model();
    private final String run;
    private final int names;
    private final int numbers;
    private int call = 0;

    private RandomRunsTest(int seed) {
        random = new Random(seed);
        run = "seed " + seed;
        names = new int[] {6, 40, 400}[seed % 3];
        numbers = new int[] {8, 40, 255}[seed % 3];
    }

    public static void main(String[] args) {
        for (int seed = 0; seed < 240 && !Check.anyWrong(); seed++) {
            RandomRunsTest test = new RandomRunsTest(seed);
            test.runCalls(seed % 3 == 2 ? 700 : 400);
            test.compareAll();
        }
        Check.end();
    }

    private void runCalls(int calls) {
        int[] sizes = {4, 5, 6, 17, 64, 1000};
        int size = sizes[random.nextInt(sizes.length)];
        compare("begin(" + size + ")", () -> vault.begin(size), () -> model.begin(size));
        for (int i = 0; i < calls && !Check.anyWrong(); i++) {
            int dice = random.nextInt(100);
            if (dice < 60) {
                changeTree(dice);
            } else if (dice < 72) {
                dumpOrRestore(dice);
            } else if (dice < 80) {
                spoilOne();
            } else {
                ask();
            }
            if (i % 100 == 99) {
                compareAll();
            }
        }
    }

    /** Mostly a number below the bound, now and then one that no call allows. */
    private int some(int bound) {
        return random.nextInt(60) == 0 ? ODD[random.nextInt(ODD.length)] : random.nextInt(bound);
    }

    private int someNode() {
        return some(Math.min(numbers, model.count(1) + 2));
    }

    private void changeTree(int dice) {
        int node = someNode();
        int parent = random.nextInt(3) == 0 ? 0 : someNode();
        int name = some(names);
        if (dice < 22) {
            boolean directory = random.nextInt(3) == 0;
            compare("make(" + parent + ", " + name + ", " + directory + ")",
                    () -> vault.make(parent, name, directory), () -> model.make(parent, name, directory));
        } else if (dice < 40) {
            int size = told(() -> model.node(false, node, 3));
            int at = random.nextInt(3) == 0 ? some(Math.max(1, size)) : size;
            long v = random.nextLong();
            compare("write(" + node + ", " + at + ", " + v + ")",
                    () -> vault.write(node, at, v), () -> model.write(node, at, v));
        } else if (dice < 44) {
            int n = some(told(() -> model.node(false, node, 3)) + 2);
            compare("cut(" + node + ", " + n + ")", () -> vault.cut(node, n), () -> model.cut(node, n));
        } else if (dice < 54) {
            compare("move(" + node + ", " + parent + ", " + name + ")",
                    () -> vault.move(node, parent, name), () -> model.move(node, parent, name));
        } else {
            compare("remove(" + node + ")", () -> vault.remove(node), () -> model.remove(node));
        }
    }

    private int told(Check.Call call) {
        return (int) toldLong(call);
    }

    private void dumpOrRestore(int dice) {
        if (dice < 66) {
            int level = random.nextInt(4) == 0 ? some(11) : 1 + random.nextInt(9);
            compare("dump(" + level + ")", () -> vault.dump(level), () -> model.dump(level));
        } else {
            int dump = some(model.count(2) + 1);
            compare("restore(" + dump + ")", () -> vault.restore(dump), () -> model.restore(dump));
        }
    }

    private void spoilOne() {
        int volume = some(model.count(3) + 1);
        int block = some(Math.min(1000, 2 + model.count(4)));
        // a HEAD, MAP or INDEX makes a whole CHAIN unreadable: most runs would have nothing else
        long first = volume < 0 ? 0 : toldLong(() -> model.tape(volume, block, 0)) >>> 56;
        if ((first == 72 || first == 77 || first == 73) && random.nextInt(12) != 0) {
            return;
        }
        compare("spoil(" + volume + ", " + block + ")", () -> vault.spoil(volume, block), () -> model.spoil(volume, block));
    }

    private long toldLong(Check.Call call) {
        try {
            return call.answer();
        } catch (RuntimeException e) {
            return 0;
        }
    }

    private void ask() {
        boolean restored = random.nextBoolean();
        int node = someNode();
        int what = some(7);
        int name = some(names);
        int k = some(600);
        int volume = some(model.count(3) + 1);
        int block = some(70);
        compare("node(" + restored + ", " + node + ", " + what + ")",
                () -> vault.node(restored, node, what), () -> model.node(restored, node, what));
        compare("octet(" + restored + ", " + node + ", " + k + ")",
                () -> vault.octet(restored, node, k), () -> model.octet(restored, node, k));
        compare("find(" + restored + ", " + node + ", " + name + ")",
                () -> vault.find(restored, node, name), () -> model.find(restored, node, name));
        compare("count(" + what + ")", () -> vault.count(what), () -> model.count(what));
        compare("tape(" + volume + ", " + block + ", " + what + ")",
                () -> vault.tape(volume, block, what), () -> model.tape(volume, block, what));
    }

    private void compare(String what, Check.Call mine, Check.Call due) {
        call++;
        Check.same(run + ", call " + call + ", " + what, Check.told(mine), Check.told(due));
    }

    private void compare(String what, Check.Deed mine, Check.Deed due) {
        call++;
        Check.same(run + ", call " + call + ", " + what, Check.told(mine), Check.told(due));
    }

    private void compareAll() {
        compareCounts();
        compareView(false);
        for (int dump = Math.max(0, model.count(2) - 6); dump < model.count(2); dump++) {
            int number = dump;
            compare("restore(" + number + ")", () -> vault.restore(number), () -> model.restore(number));
            compareCounts();
            compareView(true);
        }
        compareTapes();
    }

    private void compareCounts() {
        for (int what = 0; what < 8; what++) {
            int asked = what;
            compare("count(" + what + ")", () -> vault.count(asked), () -> model.count(asked));
        }
    }

    private void compareView(boolean restored) {
        for (int n = 0; n < 256; n++) {
            int node = n;
            for (int what = 0; what < 6; what++) {
                int asked = what;
                compare("node(" + restored + ", " + n + ", " + what + ")",
                        () -> vault.node(restored, node, asked), () -> model.node(restored, node, asked));
            }
            int kind = told(() -> model.node(restored, node, 0));
            for (int k = 0; kind == 1 && k <= told(() -> model.node(restored, node, 3)); k++) {
                int at = k;
                compare("octet(" + restored + ", " + n + ", " + k + ")",
                        () -> vault.octet(restored, node, at), () -> model.octet(restored, node, at));
            }
            for (int name = 0; kind == 2 && name <= names; name++) {
                int wanted = name;
                compare("find(" + restored + ", " + n + ", " + name + ")",
                        () -> vault.find(restored, node, wanted), () -> model.find(restored, node, wanted));
            }
        }
    }

    private void compareTapes() {
        int volumes = model.count(3);
        for (int v = 0; v <= volumes; v++) {
            int volume = v;
            for (int b = 0; b < 1001; b++) {
                int block = b;
                String due = Check.told(() -> model.tape(volume, block, 0));
                for (int w = 0; w < 8; w++) {
                    int word = w;
                    compare("tape(" + v + ", " + b + ", " + w + ")",
                            () -> vault.tape(volume, block, word), () -> model.tape(volume, block, word));
                }
                if (due.equals("throws.IndexOutOfBoundsException")) {
                    break;
                }
            }
        }
    }
}
