/** Promises 1 to 7: a test for each sentence that names a boundary case. */
public final class EdgesOfTreeTest {
    private static final Class<IllegalArgumentException> ARGUMENT = IllegalArgumentException.class;
    private static final Class<IllegalStateException> STATE = IllegalStateException.class;
    private static final Class<IndexOutOfBoundsException> BOUNDS = IndexOutOfBoundsException.class;
    private static final Class<UnsupportedOperationException> UNSUPPORTED = UnsupportedOperationException.class;

    public static void main(String[] args) {
        newAndBegin();
        make();
        write();
        cut();
        move();
        remove();
        Check.end();
    }

    private static void newAndBegin() {
        Check.sentence("Promise 1", "As begin(64) leaves it.", EdgesOfTreeTest::promise1AsBegin64LeavesIt);
        Check.sentence("Promise 2", "All anew", EdgesOfTreeTest::promise2AllAnew);
        Check.sentence("Promise 2", "VOLUMES of so many BLOCKS", EdgesOfTreeTest::promise2VolumesOfSoManyBlocks);
        Check.sentence("Promise 2", "not 4 to 1000", EdgesOfTreeTest::promise2Not4To1000);
    }

    private static void make() {
        Check.sentence("Promise 3", "A NODE is made", EdgesOfTreeTest::promise3ANodeIsMade);
        Check.sentence("Promise 3", "the least number that is none", EdgesOfTreeTest::promise3LeastNumberThatIsNone);
        Check.sentence("Promise 3", "parent is no DIRECTORY", EdgesOfTreeTest::promise3ParentIsNoDirectory);
        Check.sentence("Promise 3", "name not 1 to 30000", EdgesOfTreeTest::promise3NameNot1To30000);
        Check.sentence("Promise 3", "the NAME is there", EdgesOfTreeTest::promise3TheNameIsThere);
        Check.sentence("Promise 3", "there are 256", EdgesOfTreeTest::promise3ThereAre256);
        Check.sentence("Promise 3", "What is thrown is the first of these in the order told",
                EdgesOfTreeTest::promise3TheFirstInTheOrderTold);
    }

    private static void write() {
        Check.sentence("Promise 4", "Eight octets of a FILE from at on are those of v, the highest first",
                EdgesOfTreeTest::promise4EightOctetsHighestFirst);
        Check.sentence("Promise 4", "how many octets it has", EdgesOfTreeTest::promise4HowManyOctetsItHas);
        Check.sentence("Promise 4", "it is none", EdgesOfTreeTest::promise4ItIsNone);
        Check.sentence("Promise 4", "at is below 0", EdgesOfTreeTest::promise4AtIsBelow0);
        Check.sentence("Promise 4", "above how many it has", EdgesOfTreeTest::promise4AtIsAboveHowManyItHas);
        Check.sentence("Promise 4", "or 504", EdgesOfTreeTest::promise4AtIsAbove504);
        Check.sentence("Promise 3, in write()", "here and in all calls",
                EdgesOfTreeTest::promise3InAllCallsWrite);
    }

    private static void cut() {
        Check.sentence("Promise 5", "A FILE has its first n octets alone", EdgesOfTreeTest::promise5FirstOctetsAlone);
        Check.sentence("Promise 5", "it is none", EdgesOfTreeTest::promise5ItIsNone);
        Check.sentence("Promise 5", "it has not so many", EdgesOfTreeTest::promise5ItHasNotSoMany);
        Check.sentence("Promise 5", "(n below 0, too.)", EdgesOfTreeTest::promise5BelowZeroToo);
        Check.sentence("Promise 5", "Cut to what it has it is done all the same.",
                EdgesOfTreeTest::promise5CutToWhatItHas);
        Check.sentence("Promise 3, in cut()", "here and in all calls",
                EdgesOfTreeTest::promise3InAllCallsCut);
    }

    private static void move() {
        Check.sentence("Promise 6", "A NODE gets another PARENT and NAME.",
                EdgesOfTreeTest::promise6AnotherParentAndName);
        Check.sentence("Promise 6", "node is none, or 0", EdgesOfTreeTest::promise6NodeIsNoneOr0);
        Check.sentence("Promise 6", "parent, name as in make()", EdgesOfTreeTest::promise6ParentAndNameAsInMake);
        Check.sentence("Promise 6", "another NODE has that NAME there", EdgesOfTreeTest::promise6AnotherHasThatName);
        Check.sentence("Promise 6", "parent is the NODE", EdgesOfTreeTest::promise6ParentIsTheNode);
        Check.sentence("Promise 6", "or below it", EdgesOfTreeTest::promise6ParentIsBelowIt);
        Check.sentence("Promise 6", "It may get the PARENT and NAME that it has: that is done.",
                EdgesOfTreeTest::promise6ThePlaceThatItHas);
        Check.sentence("Promise 3, in move()", "here and in all calls",
                EdgesOfTreeTest::promise3InAllCallsMove);
    }

    private static void remove() {
        Check.sentence("Promise 7", "A NODE is none from now on.", EdgesOfTreeTest::promise7NoneFromNowOn);
        Check.sentence("Promise 7", "node is none, or 0", EdgesOfTreeTest::promise7NodeIsNoneOr0);
        Check.sentence("Promise 7", "a DIRECTORY with something in it",
                EdgesOfTreeTest::promise7DirectoryWithSomethingInIt);
        Check.sentence("Promise 3, in remove()", "here and in all calls",
                EdgesOfTreeTest::promise3InAllCallsRemove);
    }

    private static TapeVault used() {
        TapeVault x = Scenes.small();
        x.begin(9);
        x.make(0, 10, false);
        x.write(1, 0, -1L);
        x.make(0, 20, true);
        x.dump(0);
        x.dump(4);
        for (int block = 0; block < 9; block++) {
            x.spoil(0, block);
        }
        x.restore(0);
        return x;
    }

    private static void promise1AsBegin64LeavesIt() {
        TapeVault made = new TapeVault();
        TapeVault begun = used();
        begun.begin(64);
        Check.same("all that is told", Scenes.all(made), Scenes.all(begun));
        Scenes.dumps(made, 0, 16);
        // 16 DUMPS of 4 BLOCKS: 63 are behind the LABEL of a VOLUME of 64
        Scenes.counts(made, 2, 16, 2, 66);
        Scenes.block(made, 0, 63, 73, 1, 0, 1);
        Scenes.block(made, 1, 0, 76, 0, 1);
        Scenes.block(made, 1, 1, 78, 0, 2);
    }

    private static void promise2AllAnew() {
        TapeVault x = used();
        x.begin(7);
        TapeVault fresh = new TapeVault();
        fresh.begin(7);
        Check.same("all that is told", Scenes.all(x), Scenes.all(fresh));
        TapeVault y = used();
        y.begin(7);
        Check.gives("a NODE", 1, () -> y.make(0, 10, false));
        Check.fails("has no octets of an older one", BOUNDS, () -> y.octet(false, 1, 0));
        Check.gives("a DUMP", 0, () -> y.dump(5));
        Scenes.block(y, 0, 0, 76, 0, 0);
        Scenes.block(y, 0, 1, 72, 5, 0, 0, 0, 0, 0, 1, 0, 0, 0, 2);
        Scenes.block(y, 0, 6, 78, 1, 1, 0, 10, 0, 0, 0, 0, 0, 0, 1);
        Check.gives("no BLOCK is SPOILED", 0, () -> y.restore(0));
    }

    private static void promise2VolumesOfSoManyBlocks() {
        for (int size : new int[] {4, 5, 63, 64, 65, 500}) {
            TapeVault x = Scenes.full(size);
            Scenes.dumps(x, 0, 2);
            lastAndFirst(x, size);
        }
        TapeVault x = Scenes.full(1000);
        Scenes.dumps(x, 0, 4);
        lastAndFirst(x, 1000);
    }

    private static void lastAndFirst(TapeVault x, int size) {
        Check.gives("the LABEL of VOLUME 1 of " + size, 0x4C00010000000000L, () -> x.tape(1, 0, 0));
        Check.done("the last BLOCK of VOLUME 0 of " + size, () -> x.tape(0, size - 1, 0));
        Check.fails("there is none behind it in VOLUME 0", BOUNDS, () -> x.tape(0, size, 0));
    }

    private static void promise2Not4To1000() {
        TapeVault x = new TapeVault();
        for (int blocks : new int[] {3, 2, 1, 0, -1, -4, -64, 1001, 65536 + 64, Scenes.LOWEST, Scenes.HIGHEST}) {
            Check.fails("begin(" + blocks + ")", ARGUMENT, () -> x.begin(blocks));
        }
        for (int blocks : new int[] {4, 5, 999, 1000}) {
            Check.done("begin(" + blocks + ")", () -> x.begin(blocks));
        }
    }

    private static void promise3ANodeIsMade() {
        TapeVault x = new TapeVault();
        x.make(0, 30000, true);
        x.make(1, 1, false);
        Scenes.facts(x, false, 0, 2, 0, 0, 1, 1, 0);
        Scenes.facts(x, false, 1, 2, 0, 30000, 1, 2, 0);
        Scenes.facts(x, false, 2, 1, 1, 1, 0, 2, 0);
        Check.gives("NODES that are there", 3, () -> x.count(1));
    }

    private static void promise3LeastNumberThatIsNone() {
        TapeVault x = new TapeVault();
        for (int n = 1; n < 256; n++) {
            int due = n;
            Check.gives("make " + n, due, () -> x.make(0, 500 - due, due % 2 == 0));
        }
        x.remove(255);
        x.remove(9);
        x.remove(1);
        x.remove(8);
        for (int due : new int[] {1, 8, 9, 255}) {
            Check.gives("the next one", due, () -> x.make(0, 1000 + due, false));
        }
    }

    private static void promise3ParentIsNoDirectory() {
        TapeVault x = Scenes.deep();
        x.remove(4);
        Check.fails("in a FILE", ARGUMENT, () -> x.make(5, 7, true));
        Check.fails("in what was removed", ARGUMENT, () -> x.make(4, 7, true));
        Check.fails("in what was never made", ARGUMENT, () -> x.make(255, 7, true));
        for (int parent : Scenes.NO_NODES) {
            Check.fails("in " + parent, ARGUMENT, () -> x.make(parent, 7, true));
        }
        Check.gives("in a DIRECTORY", 4, () -> x.make(3, 7, true));
    }

    private static void promise3NameNot1To30000() {
        TapeVault x = new TapeVault();
        for (int name : Scenes.NO_NAMES) {
            Check.fails("NAME " + name, ARGUMENT, () -> x.make(0, name, false));
        }
        Check.gives("NAME 1", 1, () -> x.make(0, 1, false));
        Check.gives("NAME 30000", 2, () -> x.make(0, 30000, false));
    }

    private static void promise3TheNameIsThere() {
        TapeVault x = Scenes.deep();
        Check.fails("a FILE has it", STATE, () -> x.make(0, 5, true));
        Check.fails("a DIRECTORY has it", STATE, () -> x.make(0, 1, false));
        Check.gives("one in another DIRECTORY has it", 6, () -> x.make(2, 5, false));
        Check.gives("the DIRECTORY itself has it", 7, () -> x.make(2, 2, false));
        x.remove(5);
        Check.gives("one that was removed had it", 5, () -> x.make(0, 5, true));
        x.move(5, 0, 50);
        Check.gives("one that was moved had it", 8, () -> x.make(0, 5, true));
        Check.fails("one that was moved has it", STATE, () -> x.make(0, 50, true));
    }

    private static void promise3ThereAre256() {
        TapeVault x = Scenes.wide(64, 254);
        Check.gives("there are 255", 255, () -> x.make(0, 30000, true));
        Check.fails("there are 256", BOUNDS, () -> x.make(0, 300, false));
        Check.fails("in another DIRECTORY", BOUNDS, () -> x.make(255, 300, true));
        Scenes.counts(x, 0, 255, 256);
        Scenes.facts(x, false, 0, 2, 0, 0, 255, 255, 0);
        Check.gives("it is not there", -1, () -> x.find(false, 0, 300));
        x.remove(255);
        Check.gives("there are 255 again", 255, () -> x.make(0, 300, false));
    }

    private static void promise3TheFirstInTheOrderTold() {
        TapeVault x = Scenes.full(64);
        Check.fails("no DIRECTORY, there are 256", ARGUMENT, () -> x.make(7, 300, false));
        Check.fails("a wrong NAME, there are 256", ARGUMENT, () -> x.make(0, 30001, false));
        Check.fails("the NAME is there, there are 256", STATE, () -> x.make(0, 255, false));
        Check.fails("there are 256", BOUNDS, () -> x.make(0, 300, false));
        Check.fails("no DIRECTORY, a NAME that is in 0", ARGUMENT, () -> x.make(256, 255, false));
    }

    private static void octets(TapeVault x, int... want) {
        for (int k = 0; k < want.length; k++) {
            int at = k;
            Check.gives("octet " + k, want[k], () -> x.octet(false, 1, at));
        }
        Check.fails("the octet behind them", BOUNDS, () -> x.octet(false, 1, want.length));
    }

    private static void promise4EightOctetsHighestFirst() {
        TapeVault x = new TapeVault();
        x.make(0, 1, false);
        x.write(1, 0, Long.MIN_VALUE);
        octets(x, 128, 0, 0, 0, 0, 0, 0, 0);
        x.write(1, 8, -1L);
        octets(x, 128, 0, 0, 0, 0, 0, 0, 0, 255, 255, 255, 255, 255, 255, 255, 255);
        x.write(1, 5, 0x0102030405060708L);
        octets(x, 128, 0, 0, 0, 0, 1, 2, 3, 4, 5, 6, 7, 8, 255, 255, 255);
        x.write(1, 5, Long.MAX_VALUE);
        octets(x, 128, 0, 0, 0, 0, 127, 255, 255, 255, 255, 255, 255, 255, 255, 255, 255);
        x.write(1, 16, 0x1112131415161718L);
        x.write(1, 5, 0L);
        octets(x, 128, 0, 0, 0, 0, 0, 0, 0, 0, 0, 0, 0, 0, 255, 255, 255, 0x11, 0x12, 0x13, 0x14, 0x15, 0x16, 0x17, 0x18);
    }

    private static void promise4HowManyOctetsItHas() {
        TapeVault x = new TapeVault();
        x.make(0, 1, false);
        int[][] atAndDue = {{0, 8}, {0, 8}, {1, 9}, {0, 9}, {9, 17}, {8, 17}, {9, 17}, {10, 18}, {18, 26}};
        for (int[] row : atAndDue) {
            Check.gives("write at " + row[0], row[1], () -> x.write(1, row[0], 5L));
            Check.gives("node() tells as many", row[1], () -> x.node(false, 1, 3));
        }
        x.cut(1, 0);
        Check.gives("of one that was cut to 0", 8, () -> x.write(1, 0, 5L));
    }

    private static void promise4ItIsNone() {
        TapeVault x = Scenes.deep();
        Check.gives("a FILE", 8, () -> x.write(5, 0, 1L));
        Check.fails("a DIRECTORY", ARGUMENT, () -> x.write(1, 0, 1L));
        Check.fails("NODE 0", ARGUMENT, () -> x.write(0, 0, 1L));
        Check.fails("never made", ARGUMENT, () -> x.write(6, 0, 1L));
        Check.fails("never made, the last one", ARGUMENT, () -> x.write(255, 0, 1L));
        for (int node : Scenes.NO_NODES) {
            Check.fails("NODE " + node, ARGUMENT, () -> x.write(node, 0, 1L));
        }
        x.remove(5);
        Check.fails("removed", ARGUMENT, () -> x.write(5, 0, 1L));
        Check.gives("TIME", 7, () -> x.count(0));
    }

    private static void promise4AtIsBelow0() {
        TapeVault x = Scenes.file(16);
        for (int at : new int[] {-1, -7, -8, -9, -512, Scenes.LOWEST}) {
            Check.fails("at " + at, BOUNDS, () -> x.write(1, at, 1L));
        }
        Scenes.facts(x, false, 1, 1, 0, 1, 16, 4, 0);
        Check.gives("at 0", 16, () -> x.write(1, 0, 1L));
    }

    private static void promise4AtIsAboveHowManyItHas() {
        TapeVault empty = new TapeVault();
        empty.make(0, 1, false);
        Check.fails("at 1 of none", BOUNDS, () -> empty.write(1, 1, 1L));
        Check.gives("at 0 of none", 8, () -> empty.write(1, 0, 1L));
        TapeVault x = Scenes.file(13);
        for (int at : new int[] {14, 15, 16, 21, 504, Scenes.HIGHEST}) {
            Check.fails("at " + at + " of 13", BOUNDS, () -> x.write(1, at, 1L));
        }
        Check.gives("at 13 of 13", 21, () -> x.write(1, 13, 1L));
        x.cut(1, 3);
        Check.fails("at 4 of those that are left", BOUNDS, () -> x.write(1, 4, 1L));
        Check.gives("at 3 of those that are left", 11, () -> x.write(1, 3, 1L));
    }

    private static void promise4AtIsAbove504() {
        TapeVault x = Scenes.file(504);
        Check.gives("at 503 of 504", 511, () -> x.write(1, 503, 0L));
        Check.fails("at 505 of 511", BOUNDS, () -> x.write(1, 505, -1L));
        Check.fails("at 511 of 511", BOUNDS, () -> x.write(1, 511, -1L));
        Check.gives("at 504 of 511", 512, () -> x.write(1, 504, 0x0102030405060708L));
        for (int at = 505; at <= 513; at++) {
            int above = at;
            Check.fails("at " + at + " of 512", BOUNDS, () -> x.write(1, above, -1L));
        }
        Check.gives("octets", 512, () -> x.node(false, 1, 3));
        Check.gives("the last octet", 8, () -> x.octet(false, 1, 511));
        Check.gives("at 504 of 512", 512, () -> x.write(1, 504, -1L));
    }

    private static void promise3InAllCallsWrite() {
        TapeVault x = Scenes.deep();
        for (int at : new int[] {-1, 1, 505, Scenes.LOWEST, Scenes.HIGHEST}) {
            Check.fails("no FILE, at " + at, ARGUMENT, () -> x.write(1, at, 1L));
            Check.fails("no NODE, at " + at, ARGUMENT, () -> x.write(256, at, 1L));
            Check.fails("at " + at, BOUNDS, () -> x.write(5, at, 1L));
        }
    }

    private static void promise5FirstOctetsAlone() {
        TapeVault x = Scenes.file(16);
        x.cut(1, 5);
        octets(x, 1, 2, 3, 4, 5);
        x.dump(0);
        Scenes.block(x, 0, 7, 1, 2, 3, 4, 5);
        x.cut(1, 1);
        octets(x, 1);
        x.write(1, 1, 0L);
        octets(x, 1, 0, 0, 0, 0, 0, 0, 0, 0);
        x.cut(1, 0);
        Check.fails("octet 0 of none", BOUNDS, () -> x.octet(false, 1, 0));
        Scenes.facts(x, false, 1, 1, 0, 1, 0, 8, 0);
        TapeVault y = Scenes.file(512);
        y.cut(1, 511);
        Check.gives("octet 510", 510 % 251 + 1, () -> y.octet(false, 1, 510));
        Check.fails("octet 511", BOUNDS, () -> y.octet(false, 1, 511));
    }

    private static void promise5ItIsNone() {
        TapeVault x = Scenes.deep();
        Check.done("a FILE", () -> x.cut(5, 0));
        for (int node : new int[] {0, 1, 2, 6, 255}) {
            Check.fails("DIRECTORY or none: " + node, ARGUMENT, () -> x.cut(node, 0));
        }
        for (int node : Scenes.NO_NODES) {
            Check.fails("NODE " + node, ARGUMENT, () -> x.cut(node, 0));
        }
        x.remove(5);
        Check.fails("removed", ARGUMENT, () -> x.cut(5, 0));
        Check.gives("TIME", 7, () -> x.count(0));
    }

    private static void promise5ItHasNotSoMany() {
        TapeVault x = Scenes.file(9);
        for (int n : new int[] {10, 16, 512, 513, Scenes.HIGHEST}) {
            Check.fails("9 octets, cut to " + n, BOUNDS, () -> x.cut(1, n));
        }
        x.cut(1, 0);
        Check.fails("no octets, cut to 1", BOUNDS, () -> x.cut(1, 1));
        TapeVault y = Scenes.file(512);
        Check.fails("512 octets, cut to 513", BOUNDS, () -> y.cut(1, 513));
    }

    private static void promise5BelowZeroToo() {
        TapeVault x = Scenes.file(9);
        for (int n : new int[] {-1, -9, -512, Scenes.LOWEST}) {
            Check.fails("cut to " + n, BOUNDS, () -> x.cut(1, n));
        }
        Check.gives("octets", 9, () -> x.node(false, 1, 3));
        Check.done("cut to 0", () -> x.cut(1, 0));
    }

    private static void promise5CutToWhatItHas() {
        TapeVault x = Scenes.file(9);
        int time = x.count(0);
        Check.done("cut to 9", () -> x.cut(1, 9));
        Scenes.facts(x, false, 1, 1, 0, 1, 9, time + 1, 0);
        Check.gives("TIME", time + 1, () -> x.count(0));
        octets(x, 1, 2, 3, 4, 5, 6, 7, 8, 9);
        x.cut(1, 0);
        Check.done("cut of none to 0", () -> x.cut(1, 0));
        Scenes.facts(x, false, 1, 1, 0, 1, 0, time + 3, 0);
        TapeVault y = Scenes.file(512);
        Check.done("cut of all to 512", () -> y.cut(1, 512));
        Check.gives("octets", 512, () -> y.node(false, 1, 3));
    }

    private static void promise3InAllCallsCut() {
        TapeVault x = Scenes.deep();
        for (int n : new int[] {-1, 1, Scenes.LOWEST, Scenes.HIGHEST}) {
            Check.fails("no FILE, cut to " + n, ARGUMENT, () -> x.cut(1, n));
            Check.fails("no NODE, cut to " + n, ARGUMENT, () -> x.cut(-1, n));
            Check.fails("cut to " + n, BOUNDS, () -> x.cut(5, n));
        }
    }

    private static void promise6AnotherParentAndName() {
        TapeVault x = Scenes.deep();
        x.write(5, 0, -1L);
        x.move(5, 4, 30000);
        Scenes.facts(x, false, 5, 1, 4, 30000, 8, 7, 0);
        Check.gives("its octets go with it", 255, () -> x.octet(false, 5, 7));
        x.move(3, 0, 6);
        Scenes.facts(x, false, 3, 2, 0, 6, 1, 8, 0);
        Check.gives("what is in it goes with it", 4, () -> x.find(false, 3, 4));
        Check.gives("it is there", 3, () -> x.find(false, 0, 6));
        Check.gives("it is not where it was", -1, () -> x.find(false, 1, 3));
        x.move(3, 0, 3);
        Check.gives("another NAME alone", 3, () -> x.find(false, 0, 3));
        Check.gives("the old NAME", -1, () -> x.find(false, 0, 6));
        x.move(3, 2, 3);
        Check.gives("another PARENT alone", 3, () -> x.find(false, 2, 3));
        Check.gives("the old PARENT", -1, () -> x.find(false, 0, 3));
        x.move(3, 2, 1);
        Scenes.facts(x, false, 3, 2, 2, 1, 1, 11, 0);
    }

    private static void promise6NodeIsNoneOr0() {
        TapeVault x = Scenes.deep();
        Check.fails("NODE 0 into another", ARGUMENT, () -> x.move(0, 1, 9));
        Check.fails("NODE 0 into itself", ARGUMENT, () -> x.move(0, 0, 9));
        Check.fails("never made", ARGUMENT, () -> x.move(6, 0, 9));
        Check.fails("never made, the last one", ARGUMENT, () -> x.move(255, 0, 9));
        for (int node : Scenes.NO_NODES) {
            Check.fails("NODE " + node, ARGUMENT, () -> x.move(node, 0, 9));
        }
        x.remove(5);
        Check.fails("removed", ARGUMENT, () -> x.move(5, 0, 9));
        Check.gives("TIME", 6, () -> x.count(0));
    }

    private static void promise6ParentAndNameAsInMake() {
        TapeVault x = Scenes.deep();
        for (int parent : Scenes.NO_NODES) {
            Check.fails("to " + parent, ARGUMENT, () -> x.move(1, parent, 9));
        }
        Check.fails("to a FILE", ARGUMENT, () -> x.move(1, 5, 9));
        Check.fails("a FILE to itself", ARGUMENT, () -> x.move(5, 5, 9));
        Check.fails("to what was never made", ARGUMENT, () -> x.move(1, 6, 9));
        for (int name : Scenes.NO_NAMES) {
            Check.fails("NAME " + name, ARGUMENT, () -> x.move(5, 2, name));
        }
        Check.gives("TIME", 5, () -> x.count(0));
        Check.done("NAME 1", () -> x.move(5, 2, 1));
        Check.done("NAME 30000", () -> x.move(5, 2, 30000));
        x.remove(4);
        Check.fails("to what was removed", ARGUMENT, () -> x.move(5, 4, 9));
    }

    private static void promise6AnotherHasThatName() {
        TapeVault x = Scenes.deep();
        Check.fails("in the same DIRECTORY", STATE, () -> x.move(5, 0, 2));
        Check.fails("in another DIRECTORY", STATE, () -> x.move(5, 1, 3));
        Check.done("one elsewhere has it", () -> x.move(5, 2, 3));
        x.remove(4);
        Check.done("one that was removed had it", () -> x.move(5, 3, 4));
        Check.gives("it is there", 5, () -> x.find(false, 3, 4));
        Check.done("its own old NAME is free", () -> x.move(2, 0, 5));
        Check.gives("TIME", 9, () -> x.count(0));
    }

    private static void promise6ParentIsTheNode() {
        TapeVault x = Scenes.deep();
        for (int node = 1; node <= 4; node++) {
            int same = node;
            Check.fails(node + " into itself", UNSUPPORTED, () -> x.move(same, same, 9));
        }
        Scenes.facts(x, false, 2, 2, 0, 2, 0, 2, 0);
        Check.gives("TIME", 5, () -> x.count(0));
    }

    private static void promise6ParentIsBelowIt() {
        TapeVault x = new TapeVault();
        for (int n = 1; n < 256; n++) {
            x.make(n - 1, 7, true);
        }
        Check.fails("right below", UNSUPPORTED, () -> x.move(1, 2, 9));
        Check.fails("two below", UNSUPPORTED, () -> x.move(1, 3, 9));
        Check.fails("as far below as can be", UNSUPPORTED, () -> x.move(1, 255, 9));
        Check.fails("the last pair", UNSUPPORTED, () -> x.move(254, 255, 9));
        Check.gives("TIME", 255, () -> x.count(0));
        Check.done("above it", () -> x.move(255, 1, 9));
        Check.done("no more below it", () -> x.move(2, 255, 9));
        Check.fails("below it by now", UNSUPPORTED, () -> x.move(255, 254, 9));
    }

    private static void promise6ThePlaceThatItHas() {
        TapeVault x = Scenes.deep();
        Check.done("a FILE", () -> x.move(5, 0, 5));
        Scenes.facts(x, false, 5, 1, 0, 5, 0, 6, 0);
        Scenes.facts(x, false, 0, 2, 0, 0, 3, 6, 0);
        Check.done("a DIRECTORY", () -> x.move(3, 1, 3));
        Scenes.facts(x, false, 3, 2, 1, 3, 1, 7, 0);
        Scenes.facts(x, false, 1, 2, 0, 1, 1, 7, 0);
        Scenes.facts(x, false, 0, 2, 0, 0, 3, 6, 0);
        Check.gives("it is there still", 3, () -> x.find(false, 1, 3));
        Check.gives("TIME", 7, () -> x.count(0));
    }

    private static void promise3InAllCallsMove() {
        TapeVault x = Scenes.deep();
        Check.fails("no NODE, a NAME that is there", ARGUMENT, () -> x.move(6, 0, 1));
        Check.fails("NODE 0, a NAME that is there", ARGUMENT, () -> x.move(0, 0, 1));
        Check.fails("NODE 0 into one below it", ARGUMENT, () -> x.move(0, 3, 9));
        Check.fails("into itself, a wrong NAME", ARGUMENT, () -> x.move(1, 1, 30001));
        Check.fails("into one below it, a wrong NAME", ARGUMENT, () -> x.move(1, 4, 0));
        Check.fails("into itself, a NAME that is there", STATE, () -> x.move(1, 1, 3));
        Check.fails("into one below it, a NAME that is there", STATE, () -> x.move(1, 3, 4));
        Check.fails("into one below it", UNSUPPORTED, () -> x.move(1, 3, 9));
    }

    private static void promise7NoneFromNowOn() {
        TapeVault x = Scenes.deep();
        x.write(5, 0, -1L);
        Check.done("a FILE with octets", () -> x.remove(5));
        Scenes.facts(x, false, 5, 0, 0, 0, 0, 0, 0);
        Check.gives("its NAME", -1, () -> x.find(false, 0, 5));
        Check.gives("NODES that are there", 5, () -> x.count(1));
        Check.fails("removed twice", ARGUMENT, () -> x.remove(5));
        Check.gives("made anew", 5, () -> x.make(2, 5, false));
        Check.fails("it has no octets", BOUNDS, () -> x.octet(false, 5, 0));
        Check.done("a DIRECTORY", () -> x.remove(4));
        Check.fails("nothing can be in it", ARGUMENT, () -> x.make(4, 1, false));
        Check.fails("nothing is in it", ARGUMENT, () -> x.find(false, 4, 1));
    }

    private static void promise7NodeIsNoneOr0() {
        TapeVault x = new TapeVault();
        Check.fails("NODE 0 with nothing in it", ARGUMENT, () -> x.remove(0));
        Check.fails("never made", ARGUMENT, () -> x.remove(1));
        Check.fails("never made, the last one", ARGUMENT, () -> x.remove(255));
        for (int node : Scenes.NO_NODES) {
            Check.fails("NODE " + node, ARGUMENT, () -> x.remove(node));
        }
        Scenes.counts(x, 0, 0, 1);
        TapeVault y = Scenes.full(64);
        Check.done("the last one", () -> y.remove(255));
        Check.fails("it is none", ARGUMENT, () -> y.remove(255));
    }

    private static void promise7DirectoryWithSomethingInIt() {
        TapeVault x = Scenes.deep();
        Check.fails("a DIRECTORY in it", STATE, () -> x.remove(3));
        x.move(5, 2, 5);
        Check.fails("a FILE in it", STATE, () -> x.remove(2));
        Check.gives("TIME", 6, () -> x.count(0));
        x.remove(4);
        Check.done("removed out of it", () -> x.remove(3));
        x.move(5, 0, 5);
        Check.done("moved out of it", () -> x.remove(2));
        Check.gives("NODES that are there", 3, () -> x.count(1));
    }

    private static void promise3InAllCallsRemove() {
        TapeVault x = Scenes.deep();
        Check.fails("NODE 0, with something in it", ARGUMENT, () -> x.remove(0));
        Check.fails("another one, with something in it", STATE, () -> x.remove(1));
    }
}
