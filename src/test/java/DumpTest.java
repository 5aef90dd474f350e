/** Promises 8 to 10: dump, spoil and tape, octet by octet. */
public final class DumpTest {
    private static final Class<IllegalArgumentException> ARGUMENT = IllegalArgumentException.class;
    private static final Class<IllegalStateException> STATE = IllegalStateException.class;
    private static final Class<IndexOutOfBoundsException> BOUNDS = IndexOutOfBoundsException.class;

    public static void main(String[] args) {
        promise8Levels();
        promise8Bases();
        promise8WholeDump();
        promise8OnlyChanged();
        promise8NoneChanged();
        promise8LongIndexAndEntries();
        promise8FileBlocks();
        promise8TooManyDumps();
        promise8TooManyBlocks();
        promise8LabelComesLate();
        promise9Spoil();
        promise10Tape();
        Check.end();
    }

    private static void promise8Levels() {
        TapeVault x = new TapeVault();
        for (int level : new int[] {-1, 10, Integer.MIN_VALUE, Integer.MAX_VALUE}) {
            Check.fails("dump(" + level + ")", ARGUMENT, () -> x.dump(level));
        }
        Check.gives("nothing is written", 0, () -> x.count(4));
        Check.gives("dump(9)", 0, () -> x.dump(9));
        Check.gives("dump(0)", 1, () -> x.dump(0));
        Check.gives("DUMPS", 2, () -> x.count(2));
        Check.gives("TIME", 0, () -> x.count(0));
    }

    private static int baseOf(TapeVault x, int level) {
        int at = x.count(4);
        x.dump(level);
        return (int) (x.tape(0, at, 1) >>> 48);
    }

    private static void promise8Bases() {
        TapeVault x = new TapeVault();
        x.begin(1000);
        x.dump(5);
        int[] levels = {5, 6, 9, 6, 1, 9, 2, 2, 0, 9, 5, 0, 1};
        int[] bases = {0, 2, 3, 2, 0, 6, 6, 6, 0, 10, 10, 0, 13};
        for (int i = 0; i < levels.length; i++) {
            int level = levels[i];
            Check.gives("BASE of DUMP " + (i + 1), bases[i], () -> baseOf(x, level));
        }
    }

    private static void promise8WholeDump() {
        TapeVault x = new TapeVault();
        x.begin(7);
        x.make(0, 0x1234, true);
        x.make(1, 300, false);
        x.make(1, 20, true);
        x.write(2, 0, 0x0102030405060708L);
        x.write(2, 8, 0x1112131415161718L);
        x.cut(2, 9);
        Check.gives("dump(4)", 0, () -> x.dump(4));
        Scenes.block(x, 0, 0, 76, 0, 0);
        Scenes.block(x, 0, 1, 72, 4, 0, 0, 0, 0, 0, 6, 0, 0, 0, 4);
        Scenes.block(x, 0, 2, 77, 0xF0);
        Scenes.block(x, 0, 3, 73, 4, 0, 2, 1, 2, 2, 2, 3, 1);
        Scenes.block(x, 0, 4, 78, 0, 2, 0, 0, 0, 0, 1, 0, 0, 0, 1);
        Scenes.block(x, 0, 5, 0x12, 0x34, 1);
        Scenes.block(x, 0, 6, 78, 1, 2, 0x12, 0x34, 0, 0, 2, 0, 0, 0, 3);
        Scenes.block(x, 1, 0, 76, 0, 1);
        Scenes.block(x, 1, 1, 0, 20, 3, 1, 44, 2);
        Scenes.block(x, 1, 2, 78, 2, 1, 1, 44, 1, 0, 9, 0, 0, 0, 6);
        Scenes.block(x, 1, 3, 1, 2, 3, 4, 5, 6, 7, 8, 0x11);
        Scenes.block(x, 1, 4, 78, 3, 2, 0, 20, 1, 0, 0, 0, 0, 0, 3);
        Check.gives("BLOCKS", 12, () -> x.count(4));
    }

    private static void promise8OnlyChanged() {
        TapeVault x = new TapeVault();
        x.make(0, 1, true);
        x.make(1, 2, false);
        x.make(1, 3, false);
        x.make(0, 4, false);
        x.dump(0);
        int at = x.count(4);
        x.write(3, 0, -1L);
        x.remove(4);
        x.dump(7);
        Scenes.block(x, 0, at, 72, 7, 0, 1, 0, 0, 0, 6, 0, 1, 0, 2);
        Scenes.block(x, 0, at + 1, 77, 0xF0);
        Scenes.block(x, 0, at + 2, 73, 2, 0, 2, 3, 2);
        Scenes.block(x, 0, at + 3, 78, 0, 2, 0, 0, 0, 0, 1, 0, 0, 0, 6);
        Scenes.block(x, 0, at + 4, 0, 1, 1);
        Scenes.block(x, 0, at + 5, 78, 3, 1, 0, 3, 1, 0, 8, 0, 0, 0, 5);
        Scenes.block(x, 0, at + 6, 255, 255, 255, 255, 255, 255, 255, 255);
        Check.gives("BLOCKS", at + 7, () -> x.count(4));
    }

    private static void promise8NoneChanged() {
        TapeVault x = new TapeVault();
        x.make(0, 1, false);
        x.dump(0);
        int at = x.count(4);
        Check.gives("dump(1)", 1, () -> x.dump(1));
        Scenes.block(x, 0, at, 72, 1, 0, 1, 0, 0, 0, 1, 0, 1, 0, 0);
        Scenes.block(x, 0, at + 1, 77, 0xC0);
        Check.gives("no INDEX", at + 2, () -> x.count(4));
    }

    private static void promise8LongIndexAndEntries() {
        TapeVault x = new TapeVault();
        x.begin(1000);
        for (int n = 1; n < 256; n++) {
            x.make(0, 30001 - n, false);
        }
        x.dump(0);
        // HEAD, MAP, 9 of INDEX, 256 FACTS and 13 of entries, behind the LABEL
        Check.gives("BLOCKS", 1 + 2 + 9 + 256 + 13, () -> x.count(4));
        int[] map = new int[33];
        java.util.Arrays.fill(map, 255);
        map[0] = 77;
        Scenes.block(x, 0, 2, map);
        int[] index = new int[64];
        index[0] = 73;
        index[1] = 31;
        for (int i = 0; i < 31; i++) {
            index[2 + 2 * i] = i;
            index[3 + 2 * i] = i == 0 ? 14 : 1;
        }
        Scenes.block(x, 0, 3, index);
        Scenes.block(x, 0, 11, 73, 8, 248, 1, 249, 1, 250, 1, 251, 1, 252, 1, 253, 1, 254, 1, 255, 1);
        int[] entries = new int[63];
        for (int i = 0; i < 21; i++) {
            entries[3 * i] = 29746 + i >> 8;
            entries[3 * i + 1] = 29746 + i & 255;
            entries[3 * i + 2] = 255 - i;
        }
        Scenes.block(x, 0, 12, 78, 0, 2, 0, 0, 0, 0, 255, 0, 0, 0, 255);
        Scenes.block(x, 0, 13, entries);
        Scenes.block(x, 0, 25, 117, 46, 3, 117, 47, 2, 117, 48, 1);
        Scenes.block(x, 0, 26, 78, 1, 1, 117, 48, 0, 0, 0, 0, 0, 0, 1);
    }

    private static void promise8FileBlocks() {
        int[] sizes = {0, 1, 63, 64, 65, 128, 129, 511, 512};
        for (int size : sizes) {
            TapeVault x = Scenes.file(size);
            x.dump(0);
            int blocks = (size + 63) / 64;
            Check.gives("BLOCKS of " + size, 1 + 3 + 2 + 1 + blocks, () -> x.count(4));
            Check.gives("INDEX of " + size, 1 + blocks, () -> x.tape(0, 3, 0) >>> 16 & 255);
            for (int k = 0; k < 64 * blocks; k++) {
                int at = k;
                int want = k < size ? k % 251 + 1 : 0;
                Check.gives("octet " + k + " of " + size, want,
                        () -> x.tape(0, 7 + at / 64, at % 64 / 8) >>> (56 - 8 * (at % 8)) & 255);
            }
        }
    }

    private static void promise8TooManyDumps() {
        TapeVault x = new TapeVault();
        x.begin(1000);
        for (int i = 0; i < 100; i++) {
            int due = i;
            Check.gives("dump " + i, due, () -> x.dump(0));
        }
        Check.fails("a level comes first", ARGUMENT, () -> x.dump(10));
        Check.fails("dump 100", BOUNDS, () -> x.dump(0));
        Check.fails("dump 100 of none CHANGED", BOUNDS, () -> x.dump(1));
        Check.gives("DUMPS", 100, () -> x.count(2));
        Check.gives("BLOCKS", 401, () -> x.count(4));
        Check.gives("the last one's number", 0x48000063, () -> x.tape(0, 397, 0) >>> 32);
    }

    private static void promise8TooManyBlocks() {
        TapeVault x = Scenes.full(4);
        Scenes.dumps(x, 0, 10);
        Check.gives("BLOCKS", 2800 + 934, () -> x.count(4));
        Check.fails("there would be 3080 + 1027", BOUNDS, () -> x.dump(0));
        Check.gives("nothing is written", 2800 + 934, () -> x.count(4));
        Check.gives("nor is it a DUMP", 10, () -> x.count(2));
        x.cut(1, 0);
        Scenes.dumps(x, 5, 50); // 4 BLOCKS each
        Check.gives("BLOCKS are 4000", 4000, () -> x.count(4));
        Check.gives("VOLUMES are 1000", 1000, () -> x.count(3));
        Check.gives("LABEL of the last", 0x4C03E70000000000L, () -> x.tape(999, 0, 0));
        Check.gives("the last BLOCK", 0x4E01010001000000L, () -> x.tape(999, 3, 0));
        Check.fails("there is no room for two more", BOUNDS, () -> x.dump(9));
        Check.gives("DUMPS", 60, () -> x.count(2));
        Check.gives("the last one can be RESTORED", 0, () -> x.restore(59));
        Check.gives("BLOCKS that were read", 284, () -> x.count(7));
        exactlyTheLimit();
        oneAboveTheLimit();
    }

    private static void exactlyTheLimit() {
        TapeVault x = Scenes.full(64);
        Scenes.dumps(x, 0, 14);
        x.cut(1, 0);
        x.cut(2, 0);
        Scenes.dumps(x, 5, 3); // 5 BLOCKS each
        Check.gives("3935 and 63 LABELS", 3998, () -> x.count(4));
        Check.gives("two more are 4000", 17, () -> x.dump(9));
        Check.gives("BLOCKS", 4000, () -> x.count(4));
    }

    private static void oneAboveTheLimit() {
        TapeVault x = Scenes.full(64);
        Scenes.dumps(x, 0, 14);
        x.cut(1, 0);
        Scenes.dumps(x, 5, 4); // 4 BLOCKS each
        Check.gives("3936 and 63 LABELS", 3999, () -> x.count(4));
        Check.fails("two more would be 4001", BOUNDS, () -> x.dump(9));
        Check.gives("BLOCKS", 3999, () -> x.count(4));
        Check.fails("what was not written", BOUNDS, () -> x.tape(62, 31, 0));
        Check.gives("what was", 0x4E, () -> x.tape(62, 30, 0) >>> 56);
    }

    private static void promise8LabelComesLate() {
        TapeVault x = new TapeVault();
        x.begin(5);
        x.dump(0);
        Check.gives("a full VOLUME: BLOCKS", 5, () -> x.count(4));
        Check.gives("a full VOLUME: VOLUMES", 1, () -> x.count(3));
        Check.fails("the next LABEL is not there", BOUNDS, () -> x.tape(1, 0, 0));
        Check.fails("and can not be SPOILED", BOUNDS, () -> x.spoil(1, 0));
        x.dump(1);
        Check.gives("it comes with what is behind it", 8, () -> x.count(4));
        Check.gives("VOLUMES", 2, () -> x.count(3));
        Scenes.block(x, 1, 0, 76, 0, 1);
        Scenes.block(x, 1, 1, 72, 1, 0, 1, 0, 0, 0, 0, 0, 1, 0, 0);
    }

    private static void promise9Spoil() {
        TapeVault x = new TapeVault();
        x.begin(6);
        Check.fails("nothing is written", BOUNDS, () -> x.spoil(0, 0));
        x.dump(0);
        x.dump(0);
        int[][] wrong = {{-1, 0}, {0, -1}, {0, 6}, {1, 4}, {1, 6}, {2, 0}, {-1, 7}, {1, -1},
            {Integer.MIN_VALUE, 0}, {Integer.MAX_VALUE, 0}, {0, Integer.MAX_VALUE}, {0, Integer.MIN_VALUE},
            {715827883, 0}, {1 << 30, 1}, {1431655766, 0}};
        for (int[] at : wrong) {
            Check.fails("spoil(" + at[0] + ", " + at[1] + ")", BOUNDS, () -> x.spoil(at[0], at[1]));
            Check.fails("tape(" + at[0] + ", " + at[1] + ", 0)", BOUNDS, () -> x.tape(at[0], at[1], 0));
        }
        Check.done("the last BLOCK", () -> x.spoil(1, 3));
        Check.done("again", () -> x.spoil(1, 3));
        Check.fails("it is SPOILED", STATE, () -> x.tape(1, 3, 0));
        Check.gives("the one before is not", 0x4901000100000000L, () -> x.tape(1, 2, 0));
        Check.done("a LABEL", () -> x.spoil(0, 0));
        Check.fails("the LABEL is SPOILED", STATE, () -> x.tape(0, 0, 7));
        Check.gives("SPOILED BLOCKS are BLOCKS", 10, () -> x.count(4));
        x.dump(0);
        Check.fails("and stay so", STATE, () -> x.tape(1, 3, 0));
    }

    private static void promise10Tape() {
        TapeVault x = new TapeVault();
        x.make(0, 1, false);
        for (int i = 0; i < 8; i++) {
            x.write(1, 8 * i, 0x8877665544332211L + i);
        }
        x.dump(0);
        for (int i = 0; i < 8; i++) {
            int word = i;
            Check.gives("word " + i, 0x8877665544332211L + i, () -> x.tape(0, 7, word));
        }
        for (int word : new int[] {-1, 8, Integer.MIN_VALUE, Integer.MAX_VALUE}) {
            Check.fails("word " + word, ARGUMENT, () -> x.tape(0, 7, word));
            Check.fails("word " + word + " of what is not there", ARGUMENT, () -> x.tape(9, 9, word));
        }
        Check.fails("behind the last", BOUNDS, () -> x.tape(0, 8, 0));
        x.spoil(0, 7);
        Check.fails("a SPOILED one", STATE, () -> x.tape(0, 7, 0));
        Check.fails("word 8 of a SPOILED one", ARGUMENT, () -> x.tape(0, 7, 8));
        Check.gives("another one", 0x4D, () -> x.tape(0, 2, 0) >>> 56);
    }
}
