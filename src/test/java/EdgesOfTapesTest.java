/** Promises 8 to 10: a test for each sentence that names a boundary case. */
public final class EdgesOfTapesTest {
    private static final Class<IllegalArgumentException> ARGUMENT = IllegalArgumentException.class;
    private static final Class<IllegalStateException> STATE = IllegalStateException.class;
    private static final Class<IndexOutOfBoundsException> BOUNDS = IndexOutOfBoundsException.class;

    /** VOLUME and BLOCK of what two DUMPS of 4 BLOCKS on VOLUMES of 6 did not write, wrap-arounds too. */
    private static final int[][] NOT_WRITTEN = {
        {1, 4}, {1, 5}, {1, 6}, {2, 0}, {0, 6}, {0, 7}, {0, -1}, {1, -1}, {-1, 0}, {-1, 6}, {-1, 11},
        {Scenes.LOWEST, 0}, {Scenes.HIGHEST, 0}, {0, Scenes.LOWEST}, {0, Scenes.HIGHEST},
        {Scenes.LOWEST, Scenes.LOWEST}, {Scenes.HIGHEST, Scenes.HIGHEST},
        {715827883, 0}, {1431655766, 0}, {1 << 30, 1}, {1 << 31, 1}, {65536, 0}, {0, 65536}, {256, 0},
    };

    public static void main(String[] args) {
        dump();
        spoil();
        tape();
        Check.end();
    }

    private static void dump() {
        Check.sentence("Promise 8", "A DUMP: its number, from 0.", EdgesOfTapesTest::promise8ItsNumberFrom0);
        Check.sentence("Promise 8", "It does not change TIME.", EdgesOfTapesTest::promise8ItDoesNotChangeTime);
        Check.sentence("Promise 8", "IllegalArgumentException: level.", EdgesOfTapesTest::promise8Level);
        Check.sentence("Promise 8", "there would be too many BLOCKS", EdgesOfTapesTest::promise8TooManyBlocks);
        Check.sentence("Promise 8", "or DUMPS", EdgesOfTapesTest::promise8TooManyDumps);
        Check.sentence("Promise 8", "(nothing is written)", EdgesOfTapesTest::promise8NothingIsWritten);
        Check.sentence("Promise 3, in dump()", "here and in all calls",
                EdgesOfTapesTest::promise3InAllCallsDump);
    }

    private static void spoil() {
        Check.sentence("Promise 9", "A BLOCK is SPOILED from now on.", EdgesOfTapesTest::promise9SpoiledFromNowOn);
        Check.sentence("Promise 9", "it was not written", EdgesOfTapesTest::promise9ItWasNotWritten);
    }

    private static void tape() {
        Check.sentence("Promise 10", "Eight octets of a BLOCK, from 8 * word on, the highest first.",
                EdgesOfTapesTest::promise10EightOctetsHighestFirst);
        Check.sentence("Promise 10", "word is not 0..7", EdgesOfTapesTest::promise10WordIsNot0To7);
        Check.sentence("Promise 10", "it was not written", EdgesOfTapesTest::promise10ItWasNotWritten);
        Check.sentence("Promise 10", "it is SPOILED", EdgesOfTapesTest::promise10ItIsSpoiled);
        Check.sentence("Promise 3, in tape()", "here and in all calls",
                EdgesOfTapesTest::promise3InAllCallsTape);
    }

    private static void promise8ItsNumberFrom0() {
        TapeVault x = new TapeVault();
        int[] levels = {9, 0, 0, 5, 1};
        for (int i = 0; i < levels.length; i++) {
            int due = i;
            Check.gives("DUMP of level " + levels[i], due, () -> x.dump(levels[due]));
            Check.gives("DUMPS", due + 1, () -> x.count(2));
        }
        x.begin(64);
        Check.gives("behind begin()", 0, () -> x.dump(3));
    }

    private static void promise8ItDoesNotChangeTime() {
        TapeVault x = Scenes.deep();
        Scenes.dumps(x, 0, 2);
        Scenes.dumps(x, 1, 2);
        Check.gives("TIME", 5, () -> x.count(0));
        x.cut(5, 0);
        Scenes.facts(x, false, 5, 1, 0, 5, 0, 6, 0);
    }

    private static void promise8Level() {
        TapeVault x = new TapeVault();
        for (int level : new int[] {-1, -9, 10, 256, 65536, Scenes.LOWEST, Scenes.HIGHEST}) {
            Check.fails("dump(" + level + ")", ARGUMENT, () -> x.dump(level));
        }
        Scenes.counts(x, 2, 0, 0, 0);
        for (int level = 9; level >= 0; level--) {
            int asked = level;
            Check.gives("dump(" + level + ")", 9 - level, () -> x.dump(asked));
        }
    }

    private static void promise8TooManyBlocks() {
        TapeVault x = Scenes.full(64);
        Scenes.dumps(x, 0, 14);
        x.cut(1, 0);
        x.cut(2, 0);
        Scenes.dumps(x, 5, 3);
        Check.gives("3935 and 63 LABELS", 3998, () -> x.count(4));
        Check.fails("5 more would be 4003", BOUNDS, () -> x.dump(5));
        Check.gives("2 more are 4000", 17, () -> x.dump(9));
        Check.gives("BLOCKS", 4000, () -> x.count(4));
        Check.fails("there are 4000", BOUNDS, () -> x.dump(9));
        TapeVault y = Scenes.full(64);
        Scenes.dumps(y, 0, 14);
        y.cut(1, 0);
        Scenes.dumps(y, 5, 4);
        Check.gives("3936 and 63 LABELS", 3999, () -> y.count(4));
        Check.fails("2 more would be 4001", BOUNDS, () -> y.dump(9));
    }

    private static void promise8TooManyDumps() {
        TapeVault x = new TapeVault();
        Scenes.dumps(x, 0, 99);
        Check.gives("the hundredth", 99, () -> x.dump(0));
        Check.fails("there are 100", BOUNDS, () -> x.dump(0));
        Check.fails("there are 100, with none CHANGED", BOUNDS, () -> x.dump(9));
        Check.gives("DUMPS", 100, () -> x.count(2));
        Check.gives("the last one", 0, () -> x.restore(99));
        Check.fails("there is none behind it", BOUNDS, () -> x.restore(100));
    }

    private static void promise8NothingIsWritten() {
        TapeVault x = Scenes.full(1000);
        Scenes.dumps(x, 0, 14);
        Check.gives("3920 and 4 LABELS", 3924, () -> x.count(4));
        Check.fails("280 more", BOUNDS, () -> x.dump(0));
        Scenes.counts(x, 0, 255, 256, 14, 4, 3924);
        Check.fails("no BLOCK of it", BOUNDS, () -> x.tape(3, 924, 0));
        Check.done("the last one before it", () -> x.tape(3, 923, 0));
        Check.fails("no DUMP", BOUNDS, () -> x.restore(14));
        x.cut(1, 0);
        Check.gives("one that is small enough", 14, () -> x.dump(1));
        // the BASE is DUMP 13: one that was not written is none
        Scenes.block(x, 3, 924, 72, 1, 0, 14, 0, 0, 1, 0, 0, 14, 0, 1);
        Check.gives("BLOCKS", 3928, () -> x.count(4));
        hundredDumps();
    }

    private static void hundredDumps() {
        TapeVault x = new TapeVault();
        Scenes.dumps(x, 0, 100);
        Scenes.counts(x, 2, 100, 7, 407);
        Check.fails("there are 100", BOUNDS, () -> x.dump(0));
        Scenes.counts(x, 2, 100, 7, 407);
        Check.fails("no BLOCK of it", BOUNDS, () -> x.tape(6, 23, 0));
    }

    private static void promise3InAllCallsDump() {
        TapeVault x = new TapeVault();
        Scenes.dumps(x, 0, 100);
        Check.fails("a wrong level, there are 100 DUMPS", ARGUMENT, () -> x.dump(10));
        TapeVault y = Scenes.full(1000);
        Scenes.dumps(y, 0, 14);
        Check.fails("a wrong level, too many BLOCKS", ARGUMENT, () -> y.dump(-1));
    }

    /** BLOCKS 0 to 5 of VOLUME 0 and 0 to 3 of VOLUME 1 are there. */
    private static TapeVault twoDumps() {
        TapeVault x = new TapeVault();
        x.begin(6);
        Scenes.dumps(x, 0, 2);
        return x;
    }

    private static void promise9SpoiledFromNowOn() {
        TapeVault x = twoDumps();
        Check.done("the last BLOCK", () -> x.spoil(1, 3));
        Check.done("the same again", () -> x.spoil(1, 3));
        Check.done("a LABEL", () -> x.spoil(1, 0));
        Check.fails("the last BLOCK", STATE, () -> x.tape(1, 3, 0));
        Check.fails("the LABEL", STATE, () -> x.tape(1, 0, 0));
        Check.gives("the BLOCK before it", 0x49, () -> x.tape(1, 2, 0) >>> 56);
        Check.gives("the BLOCK behind the LABEL", 0x4D, () -> x.tape(1, 1, 0) >>> 56);
        Check.gives("another LABEL", 0x4C, () -> x.tape(0, 0, 0) >>> 56);
        Check.gives("they are BLOCKS all the same", 10, () -> x.count(4));
        x.dump(0);
        x.restore(2);
        Check.fails("behind another DUMP", STATE, () -> x.tape(1, 3, 0));
        Check.gives("what comes behind it is not", 0x48, () -> x.tape(1, 4, 0) >>> 56);
        x.begin(6);
        Scenes.dumps(x, 0, 2);
        Check.gives("behind begin() it is not", 0x4E, () -> x.tape(1, 3, 0) >>> 56);
    }

    private static void promise9ItWasNotWritten() {
        TapeVault none = new TapeVault();
        Check.fails("nothing is", BOUNDS, () -> none.spoil(0, 0));
        TapeVault x = twoDumps();
        String before = Scenes.all(x);
        TapeVault y = twoDumps();
        for (int[] at : NOT_WRITTEN) {
            Check.fails("spoil(" + at[0] + ", " + at[1] + ")", BOUNDS, () -> y.spoil(at[0], at[1]));
        }
        Check.same("none is SPOILED", Scenes.all(y), before);
        Check.done("the first one", () -> x.spoil(0, 0));
        Check.done("the last one of VOLUME 0", () -> x.spoil(0, 5));
        Check.done("the last one", () -> x.spoil(1, 3));
        TapeVault full = new TapeVault();
        full.begin(5);
        full.dump(0);
        Check.fails("the LABEL behind a full VOLUME", BOUNDS, () -> full.spoil(1, 0));
        full.begin(6);
        Check.fails("behind begin() nothing is", BOUNDS, () -> full.spoil(0, 0));
    }

    private static void promise10EightOctetsHighestFirst() {
        TapeVault x = new TapeVault();
        x.make(0, 1, false);
        long[] words = {-1L, 0L, 1L, Long.MIN_VALUE, Long.MAX_VALUE, 0x0102030405060708L, 0xFF00000000000000L, -2L};
        for (int word = 0; word < 8; word++) {
            x.write(1, 8 * word, words[word]);
        }
        x.dump(0);
        for (int i = 0; i < 8; i++) {
            int word = i;
            Check.gives("word " + i, words[i], () -> x.tape(0, 7, word));
        }
    }

    private static void promise10WordIsNot0To7() {
        TapeVault x = twoDumps();
        for (int word : new int[] {-1, -8, 8, 64, 65536, Scenes.LOWEST, Scenes.HIGHEST}) {
            Check.fails("word " + word, ARGUMENT, () -> x.tape(0, 1, word));
        }
        Check.gives("word 0", 0x48, () -> x.tape(0, 1, 0) >>> 56);
        Check.gives("word 7", 0, () -> x.tape(0, 1, 7));
    }

    private static void promise10ItWasNotWritten() {
        TapeVault none = new TapeVault();
        Check.fails("nothing is", BOUNDS, () -> none.tape(0, 0, 0));
        TapeVault x = twoDumps();
        for (int[] at : NOT_WRITTEN) {
            Check.fails("tape(" + at[0] + ", " + at[1] + ", 7)", BOUNDS, () -> x.tape(at[0], at[1], 7));
        }
        Check.gives("the last one of VOLUME 0", 0x48, () -> x.tape(0, 5, 0) >>> 56);
        Check.gives("the last one", 0x4E, () -> x.tape(1, 3, 0) >>> 56);
        x.begin(6);
        Check.fails("behind begin() nothing is", BOUNDS, () -> x.tape(0, 0, 0));
    }

    private static void promise10ItIsSpoiled() {
        TapeVault x = twoDumps();
        int[][] places = {{0, 0}, {0, 1}, {0, 5}, {1, 0}, {1, 3}};
        for (int[] at : places) {
            Check.done("before: " + at[0] + ", " + at[1], () -> x.tape(at[0], at[1], 0));
            x.spoil(at[0], at[1]);
            for (int word : new int[] {0, 7}) {
                Check.fails("word " + word + " of " + at[0] + ", " + at[1], STATE, () -> x.tape(at[0], at[1], word));
            }
        }
        Check.done("another one", () -> x.tape(0, 2, 0));
    }

    private static void promise3InAllCallsTape() {
        TapeVault x = twoDumps();
        x.spoil(1, 3);
        Check.fails("a wrong word, not written", ARGUMENT, () -> x.tape(1, 4, 8));
        Check.fails("a wrong word, no VOLUME", ARGUMENT, () -> x.tape(-1, -1, -1));
        Check.fails("a wrong word, SPOILED", ARGUMENT, () -> x.tape(1, 3, 8));
        Check.fails("SPOILED", STATE, () -> x.tape(1, 3, 7));
    }
}
