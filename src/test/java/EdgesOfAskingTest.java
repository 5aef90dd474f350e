/** Promises 12 to 15: a test for each sentence that names a boundary case. */
public final class EdgesOfAskingTest {
    private static final Class<IllegalArgumentException> ARGUMENT = IllegalArgumentException.class;
    private static final Class<IllegalStateException> STATE = IllegalStateException.class;
    private static final Class<IndexOutOfBoundsException> BOUNDS = IndexOutOfBoundsException.class;
    private static final boolean[] BOTH = {false, true};

    public static void main(String[] args) {
        node();
        octet();
        find();
        count();
        Check.end();
    }

    private static void node() {
        Check.sentence("Promise 12", "Of a NODE of THE TREE (or what was RESTORED)",
                EdgesOfAskingTest::promise12TheTreeOrWhatWasRestored);
        Check.sentence("Promise 12", "(as its FACTS say, also if some of them are not there)",
                EdgesOfAskingTest::promise12AsItsFactsSay);
        Check.sentence("Promise 12", "1 to 4 of none: 0", EdgesOfAskingTest::promise12OfNone0);
        Check.sentence("Promise 12", "5 of THE TREE: 0", EdgesOfAskingTest::promise12FiveOfTheTree);
        Check.sentence("Promise 12", "what is none can be LOST", EdgesOfAskingTest::promise12NoneCanBeLost);
        Check.sentence("Promise 12", "IllegalArgumentException for others.", EdgesOfAskingTest::promise12ForOthers);
        Check.sentence("Promise 12", "nothing is RESTORED", EdgesOfAskingTest::promise12NothingIsRestored);
        Check.sentence("Promise 12", "node is not 0..255", EdgesOfAskingTest::promise12NodeIsNot0To255);
        Check.sentence("Promise 3, in node()", "here and in all calls",
                EdgesOfAskingTest::promise3InAllCallsNode);
    }

    private static void octet() {
        Check.sentence("Promise 13", "Octet k of a FILE.", EdgesOfAskingTest::promise13OctetKOfAFile);
        Check.sentence("Promise 13", "IllegalStateException likewise.", EdgesOfAskingTest::promise13StateLikewise);
        Check.sentence("Promise 13", "it is no FILE", EdgesOfAskingTest::promise13ItIsNoFile);
        Check.sentence("Promise 13", "(What is not 0..255 is none.)", EdgesOfAskingTest::promise13NotANodeIsNone);
        Check.sentence("Promise 13", "IndexOutOfBoundsException: there is none.",
                EdgesOfAskingTest::promise13ThereIsNone);
        Check.sentence("Promise 3, in octet()", "here and in all calls",
                EdgesOfAskingTest::promise3InAllCallsOctet);
    }

    private static void find() {
        Check.sentence("Promise 14", "The NODE with a NAME in a DIRECTORY, by its entries",
                EdgesOfAskingTest::promise14ByItsEntries);
        Check.sentence("Promise 14", "-1 none", EdgesOfAskingTest::promise14MinusOneNone);
        Check.sentence("Promise 14", "IllegalStateException likewise.", EdgesOfAskingTest::promise14StateLikewise);
        Check.sentence("Promise 14", "it is no DIRECTORY", EdgesOfAskingTest::promise14ItIsNoDirectory);
        Check.sentence("Promise 14", "(What is not 0..255 is none.)", EdgesOfAskingTest::promise14NotANodeIsNone);
        Check.sentence("Promise 3, in find()", "here and in all calls",
                EdgesOfAskingTest::promise3InAllCallsFind);
    }

    private static void count() {
        Check.sentence("Promise 15", "What 0: TIME", EdgesOfAskingTest::promise15Time);
        Check.sentence("Promise 15", "1: NODES that are there", EdgesOfAskingTest::promise15NodesThatAreThere);
        Check.sentence("Promise 15", "2: DUMPS", EdgesOfAskingTest::promise15Dumps);
        Check.sentence("Promise 15", "3: VOLUMES that have a BLOCK", EdgesOfAskingTest::promise15Volumes);
        Check.sentence("Promise 15", "4: BLOCKS with LABELS", EdgesOfAskingTest::promise15BlocksWithLabels);
        Check.sentence("Promise 15", "of the latest restore() 5: DUMPS of its CHAIN",
                EdgesOfAskingTest::promise15DumpsOfItsChain);
        Check.sentence("Promise 15", "6: NODES that are LOST", EdgesOfAskingTest::promise15NodesThatAreLost);
        Check.sentence("Promise 15", "7: BLOCKS that were read (those of its CHAIN that are not SPOILED, no LABELS",
                EdgesOfAskingTest::promise15BlocksThatWereRead);
        Check.sentence("Promise 15", "6, 7: 0 if it could not be", EdgesOfAskingTest::promise15ZeroIfItCouldNotBe);
        Check.sentence("Promise 15", "5 to 7 are 0 before the first restore()",
                EdgesOfAskingTest::promise15BeforeTheFirst);
        Check.sentence("Promise 15", "and behind begin()", EdgesOfAskingTest::promise15BehindBegin);
        Check.sentence("Promise 15", "IllegalArgumentException for others.", EdgesOfAskingTest::promise15ForOthers);
    }

    private static void promise12TheTreeOrWhatWasRestored() {
        TapeVault x = Scenes.small();
        x.restore(0);
        x.move(2, 0, 30000);
        x.cut(2, 1);
        Scenes.facts(x, false, 2, 1, 0, 30000, 1, 13, 0);
        Scenes.facts(x, true, 2, 1, 1, 20, 72, 11, 0);
        Scenes.facts(x, false, 1, 2, 0, 10, 0, 12, 0);
        Scenes.facts(x, true, 1, 2, 0, 10, 1, 2, 0);
        Scenes.facts(x, false, 0, 2, 0, 0, 2, 12, 0);
        Scenes.facts(x, true, 0, 2, 0, 0, 1, 1, 0);
    }

    private static void promise12AsItsFactsSay() {
        TapeVault x = Scenes.small();
        x.spoil(0, 5);
        x.spoil(0, 9);
        x.spoil(0, 10);
        x.restore(0);
        Scenes.facts(x, true, 0, 2, 0, 0, 1, 1, 1);
        Check.gives("the entry is not there", -1, () -> x.find(true, 0, 10));
        Scenes.facts(x, true, 2, 1, 1, 20, 72, 11, 1);
        TapeVault y = Scenes.full(1000);
        y.dump(0);
        y.spoil(0, 13);
        y.restore(0);
        Check.gives("255 entries", 255, () -> y.node(true, 0, 3));
        TapeVault z = Scenes.file(512);
        z.dump(0);
        z.spoil(0, 14);
        z.restore(0);
        Check.gives("512 octets", 512, () -> z.node(true, 1, 3));
    }

    private static void promise12OfNone0() {
        TapeVault x = Scenes.small();
        x.remove(2);
        x.dump(1);
        x.restore(1);
        for (boolean restored : BOTH) {
            for (int node : new int[] {2, 3, 254, 255}) {
                Scenes.facts(x, restored, node, 0, 0, 0, 0, 0, 0);
            }
        }
    }

    private static void promise12FiveOfTheTree() {
        TapeVault x = Scenes.small();
        x.spoil(0, 4);
        x.spoil(0, 9);
        x.restore(0);
        Check.gives("LOST where it was RESTORED", 1, () -> x.node(true, 2, 5));
        for (int n : new int[] {0, 1, 2, 3, 255}) {
            Check.gives("NODE " + n + " of THE TREE", 0, () -> x.node(false, n, 5));
        }
        TapeVault y = new TapeVault();
        Check.gives("before any restore()", 0, () -> y.node(false, 0, 5));
    }

    private static void promise12NoneCanBeLost() {
        TapeVault x = Scenes.small();
        x.spoil(0, 4);
        x.spoil(0, 8);
        x.restore(0);
        Scenes.facts(x, true, 2, 0, 0, 0, 0, 0, 1);
        Scenes.facts(x, true, 0, 0, 0, 0, 0, 0, 1);
        Scenes.facts(x, true, 3, 0, 0, 0, 0, 0, 0);
        Check.gives("LOST", 2, () -> x.count(6));
    }

    private static void promise12ForOthers() {
        TapeVault x = Scenes.small();
        x.restore(0);
        for (boolean restored : BOTH) {
            for (int what : new int[] {-1, 6, 7, 256, 65536, Scenes.LOWEST, Scenes.HIGHEST}) {
                Check.fails("what " + what, ARGUMENT, () -> x.node(restored, 2, what));
                Check.fails("what " + what + " of none", ARGUMENT, () -> x.node(restored, 3, what));
            }
            Check.gives("what 0", 1, () -> x.node(restored, 2, 0));
            Check.gives("what 5", 0, () -> x.node(restored, 2, 5));
        }
    }

    private static void promise12NothingIsRestored() {
        TapeVault x = Scenes.small();
        Check.fails("before the first restore()", STATE, () -> x.node(true, 0, 0));
        Check.fails("LOST", STATE, () -> x.node(true, 255, 5));
        Check.gives("of THE TREE", 2, () -> x.node(false, 0, 0));
        x.restore(0);
        Check.gives("behind restore()", 2, () -> x.node(true, 0, 0));
        x.spoil(0, 1);
        Check.gives("behind spoil()", 2, () -> x.node(true, 0, 0));
        x.restore(0);
        Check.fails("behind one that could not be", STATE, () -> x.node(true, 0, 0));
        x.dump(0);
        x.restore(1);
        x.begin(64);
        Check.fails("behind begin()", STATE, () -> x.node(true, 0, 0));
    }

    private static void promise12NodeIsNot0To255() {
        TapeVault x = Scenes.small();
        x.restore(0);
        for (boolean restored : BOTH) {
            for (int node : Scenes.NO_NODES) {
                for (int what = 0; what < 6; what++) {
                    int asked = what;
                    Check.fails("NODE " + node + ", " + what, BOUNDS, () -> x.node(restored, node, asked));
                }
            }
            Check.gives("NODE 0", 2, () -> x.node(restored, 0, 0));
            Check.gives("NODE 255", 0, () -> x.node(restored, 255, 0));
        }
    }

    private static void promise3InAllCallsNode() {
        TapeVault x = Scenes.small();
        Check.fails("what, nothing RESTORED, NODE", ARGUMENT, () -> x.node(true, 256, 6));
        Check.fails("what, nothing RESTORED", ARGUMENT, () -> x.node(true, 0, -1));
        Check.fails("what, NODE", ARGUMENT, () -> x.node(false, -1, 6));
        Check.fails("nothing RESTORED, NODE", STATE, () -> x.node(true, -1, 0));
        Check.fails("NODE", BOUNDS, () -> x.node(false, -1, 0));
    }

    private static void promise13OctetKOfAFile() {
        TapeVault x = new TapeVault();
        x.make(0, 1, false);
        x.write(1, 0, 0x00017F8081FEFF10L);
        x.dump(0);
        x.restore(0);
        int[] want = {0, 1, 127, 128, 129, 254, 255, 16};
        for (boolean restored : BOTH) {
            for (int k = 0; k < 8; k++) {
                int at = k;
                Check.gives("octet " + k, want[k], () -> x.octet(restored, 1, at));
            }
        }
        TapeVault y = Scenes.file(512);
        y.dump(0);
        y.restore(0);
        for (boolean restored : BOTH) {
            for (int k : new int[] {0, 63, 64, 127, 128, 447, 448, 511}) {
                Check.gives("octet " + k + " of 512", k % 251 + 1, () -> y.octet(restored, 1, k));
            }
        }
    }

    private static void promise13StateLikewise() {
        TapeVault x = Scenes.small();
        Check.fails("before the first restore()", STATE, () -> x.octet(true, 2, 0));
        Check.gives("of THE TREE", 7, () -> x.octet(false, 2, 0));
        x.restore(0);
        Check.gives("behind restore()", 7, () -> x.octet(true, 2, 0));
        x.spoil(0, 1);
        x.restore(0);
        Check.fails("behind one that could not be", STATE, () -> x.octet(true, 2, 0));
        x.dump(0);
        x.restore(1);
        x.begin(64);
        Check.fails("behind begin()", STATE, () -> x.octet(true, 2, 0));
    }

    private static void promise13ItIsNoFile() {
        TapeVault x = Scenes.small();
        x.remove(2);
        x.dump(1);
        x.restore(1);
        for (boolean restored : BOTH) {
            for (int node : new int[] {0, 1, 2, 3, 255}) {
                Check.fails("DIRECTORY or none: " + node, ARGUMENT, () -> x.octet(restored, node, 0));
            }
        }
        x.restore(0);
        Check.gives("a FILE in DUMP 0", 7, () -> x.octet(true, 2, 0));
        Check.fails("none in THE TREE", ARGUMENT, () -> x.octet(false, 2, 0));
    }

    private static void promise13NotANodeIsNone() {
        TapeVault x = Scenes.small();
        x.restore(0);
        for (boolean restored : BOTH) {
            for (int node : new int[] {-1, 256, 258, 2 - 256, 65538, Scenes.LOWEST, Scenes.LOWEST + 2, Scenes.HIGHEST}) {
                Check.fails("NODE " + node, ARGUMENT, () -> x.octet(restored, node, 0));
            }
        }
    }

    private static void promise13ThereIsNone() {
        TapeVault x = Scenes.small();
        x.make(0, 30, false);
        x.dump(1);
        x.restore(1);
        for (boolean restored : BOTH) {
            for (int k : new int[] {-1, 72, 73, 127, 128, 512, Scenes.LOWEST, Scenes.HIGHEST}) {
                Check.fails("octet " + k + " of 72", BOUNDS, () -> x.octet(restored, 2, k));
            }
            Check.gives("octet 71 of 72", 7, () -> x.octet(restored, 2, 71));
            Check.fails("octet 0 of none", BOUNDS, () -> x.octet(restored, 3, 0));
            Check.fails("octet -1 of none", BOUNDS, () -> x.octet(restored, 3, -1));
        }
        x.cut(2, 1);
        Check.fails("octet 1 of 1 in THE TREE", BOUNDS, () -> x.octet(false, 2, 1));
        Check.gives("octet 1 of what was RESTORED", 7, () -> x.octet(true, 2, 1));
    }

    private static void promise3InAllCallsOctet() {
        TapeVault x = Scenes.small();
        Check.fails("nothing RESTORED, no FILE, no octet", STATE, () -> x.octet(true, 0, -1));
        Check.fails("nothing RESTORED, no NODE", STATE, () -> x.octet(true, 256, 0));
        Check.fails("nothing RESTORED, no octet", STATE, () -> x.octet(true, 2, 72));
        Check.fails("no FILE, no octet", ARGUMENT, () -> x.octet(false, 0, -1));
        Check.fails("no NODE, no octet", ARGUMENT, () -> x.octet(false, -1, 512));
        x.restore(0);
        Check.fails("RESTORED, no FILE, no octet", ARGUMENT, () -> x.octet(true, 1, 512));
    }

    private static void promise14ByItsEntries() {
        TapeVault x = Scenes.small();
        int at = x.count(4);
        x.move(2, 0, 40);
        x.dump(1);
        // HEAD, MAP, INDEX, FACTS and entries of 0, FACTS of 1, FACTS and octets of 2
        x.spoil(0, at + 5);
        x.restore(1);
        Check.gives("an entry that 1 had before", 2, () -> x.find(true, 1, 20));
        Check.gives("and the one in 0", 2, () -> x.find(true, 0, 40));
        Check.gives("the PARENT of 2 is 0 alone", 0, () -> x.node(true, 2, 1));
        x.spoil(0, at + 4);
        x.restore(1);
        Check.gives("2 is in 0, but its entry is not there", -1, () -> x.find(true, 0, 40));
        Check.gives("2 itself is there", 1, () -> x.node(true, 2, 0));
        TapeVault y = Scenes.small();
        y.spoil(0, 8);
        y.restore(0);
        Check.gives("the entry of one that is none", 2, () -> y.find(true, 1, 20));
        firstAndLastEntries();
    }

    private static void firstAndLastEntries() {
        TapeVault x = Scenes.full(1000);
        x.dump(0);
        x.restore(0);
        for (boolean restored : BOTH) {
            for (int name : new int[] {1, 21, 22, 42, 43, 252, 253, 255}) {
                Check.gives("entry " + name, name, () -> x.find(restored, 0, name));
            }
        }
    }

    private static void promise14MinusOneNone() {
        TapeVault x = Scenes.small();
        x.restore(0);
        for (boolean restored : BOTH) {
            for (int name : new int[] {0, -1, 1, 9, 11, 20, 30000, 30001, 65536, 65546, Scenes.LOWEST, Scenes.HIGHEST}) {
                Check.gives("NAME " + name, -1, () -> x.find(restored, 0, name));
            }
            Check.gives("NAME 10", 1, () -> x.find(restored, 0, 10));
        }
        TapeVault y = new TapeVault();
        y.dump(0);
        y.restore(0);
        for (boolean restored : BOTH) {
            Check.gives("in an empty DIRECTORY", -1, () -> y.find(restored, 0, 1));
            Check.gives("NAME 0 in an empty DIRECTORY", -1, () -> y.find(restored, 0, 0));
        }
    }

    private static void promise14StateLikewise() {
        TapeVault x = Scenes.small();
        Check.fails("before the first restore()", STATE, () -> x.find(true, 0, 10));
        Check.gives("of THE TREE", 1, () -> x.find(false, 0, 10));
        x.restore(0);
        Check.gives("behind restore()", 1, () -> x.find(true, 0, 10));
        x.spoil(0, 1);
        x.restore(0);
        Check.fails("behind one that could not be", STATE, () -> x.find(true, 0, 10));
        x.dump(0);
        x.restore(1);
        x.begin(64);
        Check.fails("behind begin()", STATE, () -> x.find(true, 0, 10));
    }

    private static void promise14ItIsNoDirectory() {
        TapeVault x = Scenes.small();
        x.restore(0);
        for (boolean restored : BOTH) {
            for (int directory : new int[] {2, 3, 255}) {
                Check.fails("FILE or none: " + directory, ARGUMENT, () -> x.find(restored, directory, 10));
            }
        }
        x.spoil(0, 4);
        x.restore(0);
        Check.fails("NODE 0, its FACTS SPOILED", ARGUMENT, () -> x.find(true, 0, 10));
        Check.gives("NODE 0 of THE TREE", 1, () -> x.find(false, 0, 10));
    }

    private static void promise14NotANodeIsNone() {
        TapeVault x = Scenes.small();
        x.restore(0);
        for (boolean restored : BOTH) {
            for (int directory : Scenes.NO_NODES) {
                Check.fails("NODE " + directory, ARGUMENT, () -> x.find(restored, directory, 10));
            }
        }
    }

    private static void promise3InAllCallsFind() {
        TapeVault x = Scenes.small();
        Check.fails("nothing RESTORED, a FILE", STATE, () -> x.find(true, 2, 10));
        Check.fails("nothing RESTORED, no NODE", STATE, () -> x.find(true, -1, 10));
        Check.fails("no NODE", ARGUMENT, () -> x.find(false, -1, 10));
    }

    private static void promise15Time() {
        TapeVault x = new TapeVault();
        Check.gives("at first", 0, () -> x.count(0));
        x.make(0, 1, false);
        Scenes.cuts(x, 1, 299);
        Check.gives("above 255", 300, () -> x.count(0));
        x.begin(64);
        Check.gives("behind begin()", 0, () -> x.count(0));
    }

    private static void promise15NodesThatAreThere() {
        TapeVault x = new TapeVault();
        Check.gives("NODE 0", 1, () -> x.count(1));
        x.make(0, 1, true);
        x.move(1, 0, 2);
        Check.gives("one more", 2, () -> x.count(1));
        x.remove(1);
        Check.gives("one less", 1, () -> x.count(1));
        TapeVault y = Scenes.full(64);
        Check.gives("all of them", 256, () -> y.count(1));
        Check.told(() -> y.make(0, 300, false));
        Check.gives("one that is refused", 256, () -> y.count(1));
        y.begin(64);
        Check.gives("behind begin()", 1, () -> y.count(1));
    }

    private static void promise15Dumps() {
        TapeVault x = new TapeVault();
        Check.gives("at first", 0, () -> x.count(2));
        Check.told(() -> x.dump(10));
        Check.gives("one that is refused", 0, () -> x.count(2));
        Scenes.dumps(x, 9, 100);
        Check.gives("100", 100, () -> x.count(2));
        x.restore(0);
        Check.gives("behind restore()", 100, () -> x.count(2));
        x.begin(64);
        Check.gives("behind begin()", 0, () -> x.count(2));
    }

    private static void promise15Volumes() {
        TapeVault x = new TapeVault();
        x.begin(5);
        Check.gives("at first", 0, () -> x.count(3));
        x.dump(0);
        Check.gives("a full one", 1, () -> x.count(3));
        x.dump(0);
        Check.gives("two full ones", 2, () -> x.count(3));
        x.dump(1);
        Check.gives("a third one with two BLOCKS", 3, () -> x.count(3));
        x.spoil(2, 0);
        Check.gives("SPOILED ones, too", 3, () -> x.count(3));
        TapeVault y = Scenes.full(4);
        Scenes.dumps(y, 0, 10);
        Check.gives("934", 934, () -> y.count(3));
    }

    private static void promise15BlocksWithLabels() {
        TapeVault x = new TapeVault();
        x.begin(4);
        Check.gives("at first", 0, () -> x.count(4));
        x.dump(0);
        Check.gives("4 and 2 LABELS", 6, () -> x.count(4));
        x.dump(1);
        Check.gives("6 and 2 LABELS", 8, () -> x.count(4));
        x.dump(1);
        Check.gives("8 and 3 LABELS", 11, () -> x.count(4));
        x.spoil(0, 0);
        x.spoil(0, 1);
        Check.gives("SPOILED ones, too", 11, () -> x.count(4));
    }

    private static void promise15DumpsOfItsChain() {
        TapeVault x = new TapeVault();
        for (int level = 0; level <= 9; level++) {
            x.dump(level);
        }
        x.restore(9);
        Check.gives("as many as can be", 10, () -> x.count(5));
        x.restore(0);
        Check.gives("one", 1, () -> x.count(5));
        x.dump(0);
        Check.gives("behind another DUMP", 1, () -> x.count(5));
        x.restore(4);
        Check.told(() -> x.restore(11));
        Check.gives("behind one that throws", 5, () -> x.count(5));
        x.spoil(0, 1);
        x.restore(2);
        Check.gives("of one that could not be", 3, () -> x.count(5));
    }

    private static void promise15NodesThatAreLost() {
        TapeVault x = Scenes.small();
        x.restore(0);
        Check.gives("none", 0, () -> x.count(6));
        x.spoil(0, 9);
        Check.gives("of the latest restore()", 0, () -> x.count(6));
        x.spoil(0, 10);
        x.restore(0);
        Check.gives("two BLOCKS of one", 1, () -> x.count(6));
        x.spoil(0, 4);
        x.spoil(0, 7);
        x.restore(0);
        Check.gives("NODE 0 and what is none, too", 3, () -> x.count(6));
        TapeVault y = Scenes.wide(1000, 31);
        y.dump(0);
        for (int block = 5; block < 39; block++) {
            y.spoil(0, block);
        }
        y.restore(0);
        Check.gives("all of 32", 32, () -> y.count(6));
    }

    private static void promise15BlocksThatWereRead() {
        TapeVault x = new TapeVault();
        x.begin(4);
        x.make(0, 1, false);
        x.write(1, 0, -1L);
        x.dump(0);
        x.restore(0);
        Check.gives("7 without 3 LABELS", 7, () -> x.count(7));
        x.cut(1, 0);
        x.dump(5);
        x.dump(3);
        x.restore(2);
        Check.gives("7 and 4, DUMP 1 is not of the CHAIN", 11, () -> x.count(7));
        x.spoil(0, 0);
        x.restore(2);
        Check.gives("a SPOILED LABEL", 11, () -> x.count(7));
        // 7 BLOCKS of DUMP 0: HEAD, MAP, INDEX in VOLUME 0; FACTS, entries of 0, FACTS of 1 in VOLUME 1; octets in 2
        x.spoil(1, 3);
        x.restore(2);
        Check.gives("SPOILED FACTS alone, what is behind them is not", 10, () -> x.count(7));
        x.spoil(2, 1);
        Check.gives("of the latest restore()", 10, () -> x.count(7));
        x.restore(2);
        Check.gives("and SPOILED octets", 9, () -> x.count(7));
    }

    private static void promise15ZeroIfItCouldNotBe() {
        TapeVault x = Scenes.small();
        x.dump(1);
        x.spoil(0, 9);
        x.restore(1);
        Scenes.counts(x, 5, 2, 1, 11);
        x.spoil(0, 12);
        x.restore(1);
        Scenes.counts(x, 5, 2, 0, 0);
        x.restore(0);
        Scenes.counts(x, 5, 1, 1, 9);
        x.spoil(0, 1);
        x.restore(1);
        Scenes.counts(x, 5, 2, 0, 0);
    }

    private static void promise15BeforeTheFirst() {
        TapeVault x = new TapeVault();
        Scenes.counts(x, 5, 0, 0, 0);
        x.dump(0);
        x.spoil(0, 4);
        Scenes.counts(x, 5, 0, 0, 0);
        Check.told(() -> x.restore(1));
        Scenes.counts(x, 5, 0, 0, 0);
        x.restore(0);
        Scenes.counts(x, 5, 1, 1, 3);
    }

    private static void promise15BehindBegin() {
        TapeVault x = Scenes.small();
        x.spoil(0, 9);
        x.restore(0);
        Check.told(() -> x.begin(3));
        Scenes.counts(x, 5, 1, 1, 9);
        x.begin(64);
        Scenes.counts(x, 5, 0, 0, 0);
        x.dump(0);
        Scenes.counts(x, 5, 0, 0, 0);
    }

    private static void promise15ForOthers() {
        TapeVault x = Scenes.small();
        for (int what : new int[] {-1, 8, 9, 256, 65536, Scenes.LOWEST, Scenes.HIGHEST}) {
            Check.fails("count(" + what + ")", ARGUMENT, () -> x.count(what));
        }
        Scenes.counts(x, 0, 11, 3, 1, 1, 11, 0, 0, 0);
    }
}
