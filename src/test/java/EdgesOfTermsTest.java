import java.util.function.ToLongFunction;

/** "What it is" and Terms 1 and 2: a test for each sentence that names a boundary case. */
public final class EdgesOfTermsTest {
    private static final Class<IllegalArgumentException> ARGUMENT = IllegalArgumentException.class;
    private static final Class<IllegalStateException> STATE = IllegalStateException.class;
    private static final Class<IndexOutOfBoundsException> BOUNDS = IndexOutOfBoundsException.class;

    public static void main(String[] args) {
        Check.sentence("What it is", "An object is used for at most 512 calls", EdgesOfTermsTest::atMost512Calls);
        theTree();
        blocksAndVolumes();
        whatADumpIs();
        whatADumpWrites();
        Check.end();
    }

    private static void theTree() {
        Check.sentence("Terms 1", "NODES 0..255", EdgesOfTermsTest::terms1Nodes0To255);
        Check.sentence("Terms 1", "0 is a DIRECTORY, its own PARENT, NAME 0", EdgesOfTermsTest::terms1NodeZero);
        Check.sentence("Terms 1", "a NAME (1 to 30000, once in a DIRECTORY)", EdgesOfTermsTest::terms1OnceInADirectory);
        Check.sentence("Terms 1", "a FILE has octets, up to 512", EdgesOfTermsTest::terms1OctetsUpTo512);
        Check.sentence("Terms 1", "each call of make, write, cut, move, remove that is done: 1 more",
                EdgesOfTermsTest::terms1EachCallThatIsDone);
        Check.sentence("Terms 1", "of FILES what was written, cut, moved, made", EdgesOfTermsTest::terms1StampOfFiles);
        Check.sentence("Terms 1", "of DIRECTORIES likewise, and where a NODE is made, removed, moved in or out of (or within)",
                EdgesOfTermsTest::terms1StampOfDirectories);
        Check.sentence("Terms 1", "TIME is 1 more first; the STAMPS are that TIME.", EdgesOfTermsTest::terms1TimeFirst);
        Check.sentence("Terms 1", "At first TIME 0, all none but 0, STAMP 0.", EdgesOfTermsTest::terms1AtFirst);
    }

    private static void blocksAndVolumes() {
        Check.sentence("Terms 2", "BLOCKS of 64 octets (numbers with their highest octet first; what is not said is 0)",
                EdgesOfTermsTest::terms2WhatIsNotSaidIs0);
        Check.sentence("Terms 2", "lie one behind the other on VOLUMES 0, 1 .. of as many each as begin() says",
                EdgesOfTermsTest::terms2OneBehindTheOther);
        Check.sentence("Terms 2", "the first one of each is its LABEL: 76, the VOLUME (2 octets)",
                EdgesOfTermsTest::terms2Label);
        Check.sentence("Terms 2", "it is written with what comes behind it", EdgesOfTermsTest::terms2LabelComesLate);
        Check.sentence("Terms 2", "At most 4000 BLOCKS in all, with LABELS", EdgesOfTermsTest::terms2AtMost4000Blocks);
        Check.sentence("Terms 2", "and 100 DUMPS", EdgesOfTermsTest::terms2AtMost100Dumps);
    }

    private static void whatADumpIs() {
        Check.sentence("Terms 2", "A DUMP of a level 0..9", EdgesOfTermsTest::terms2Levels);
        Check.sentence("Terms 2", "its BASE is the latest DUMP of a lower level",
                EdgesOfTermsTest::terms2LatestOfALowerLevel);
        Check.sentence("Terms 2", "(none of level 0, or if there is none)", EdgesOfTermsTest::terms2NoBase);
        Check.sentence("Terms 2", "CHANGED are the NODES that are there", EdgesOfTermsTest::terms2ChangedAreThere);
        Check.sentence("Terms 2", "with a STAMP above the TIME of the BASE", EdgesOfTermsTest::terms2StampAboveTheBase);
        Check.sentence("Terms 2", "(all without one)", EdgesOfTermsTest::terms2AllWithoutABase);
    }

    private static void whatADumpWrites() {
        Check.sentence("Terms 2", "Behind what is there come its BLOCKS", EdgesOfTermsTest::terms2BehindWhatIsThere);
        Check.sentence("Terms 2", "HEAD: 72, level (1), its number (2), TIME (4), the BASE's number and 1, 0 without (2), "
                + "how many are CHANGED (2).", EdgesOfTermsTest::terms2Head);
        Check.sentence("Terms 2", "NODE n is there if bit 7 - n % 8 of octet n / 8 of these is 1",
                EdgesOfTermsTest::terms2Map);
        Check.sentence("Terms 2", "INDEX, as many as it needs", EdgesOfTermsTest::terms2IndexAsManyAsItNeeds);
        Check.sentence("Terms 2", "then of up to 31 CHANGED ones the number and how many BLOCKS it takes, "
                + "its FACTS and those behind (1 each)", EdgesOfTermsTest::terms2IndexOfUpTo31);
        Check.sentence("Terms 2", "none CHANGED: no INDEX", EdgesOfTermsTest::terms2NoneChangedNoIndex);
        Check.sentence("Terms 2", "Then NODE by NODE, by numbers", EdgesOfTermsTest::terms2NodesByNumbers);
        Check.sentence("Terms 2", "FACTS: 78, the number (1), 1 FILE, 2 DIRECTORY (1), NAME (2), PARENT (1), "
                + "how many octets or entries (2), STAMP (4)", EdgesOfTermsTest::terms2Facts);
        Check.sentence("Terms 2", "octets, 64 a BLOCK", EdgesOfTermsTest::terms2Octets64ABlock);
        Check.sentence("Terms 2", "entries by NAMES: NAME (2), number (1)", EdgesOfTermsTest::terms2EntriesByNames);
        Check.sentence("Terms 2", "21 a BLOCK", EdgesOfTermsTest::terms2Entries21ABlock);
    }

    /** A new object and 511 calls; NODE 1 is a FILE, TIME 510, and there is a DUMP. */
    private static TapeVault before512() {
        TapeVault x = new TapeVault();
        x.make(0, 1, false);
        Scenes.cuts(x, 1, 509);
        x.dump(0);
        return x;
    }

    private static void call512(String what, long want, ToLongFunction<TapeVault> call) {
        TapeVault x = before512();
        Check.gives("call 512: " + what, want, () -> call.applyAsLong(x));
    }

    private static void atMost512Calls() {
        call512("make()", 2, x -> x.make(0, 2, true));
        call512("write()", 8, x -> x.write(1, 0, -1L));
        call512("dump()", 1, x -> x.dump(0));
        call512("tape()", 510, x -> x.tape(0, 1, 0) & 0xFFFFFFFFL);
        call512("restore()", 0, x -> x.restore(0));
        call512("node()", 510, x -> x.node(false, 1, 4));
        call512("find()", 1, x -> x.find(false, 0, 1));
        call512("count()", 510, x -> x.count(0));
        TapeVault x = before512();
        Check.done("call 512: remove()", () -> x.remove(1));
        TapeVault y = before512();
        Check.done("call 512: spoil()", () -> y.spoil(0, 1));
    }

    private static void terms1Nodes0To255() {
        TapeVault x = Scenes.wide(64, 254);
        Check.gives("NODE 255", 255, () -> x.make(0, 999, true));
        Scenes.facts(x, false, 255, 2, 0, 999, 0, 255, 0);
        Check.fails("NODE 256", BOUNDS, () -> x.make(0, 998, true));
        Check.fails("node() of 256", BOUNDS, () -> x.node(false, 256, 0));
        Check.fails("node() of -1", BOUNDS, () -> x.node(false, -1, 0));
        x.move(1, 255, 1);
        Scenes.facts(x, false, 1, 1, 255, 1, 0, 256, 0);
    }

    private static void terms1NodeZero() {
        TapeVault x = new TapeVault();
        Scenes.facts(x, false, 0, 2, 0, 0, 0, 0, 0);
        Check.gives("it is no entry of itself", -1, () -> x.find(false, 0, 0));
        x.dump(0);
        Scenes.block(x, 0, 4, 78, 0, 2);
        x.restore(0);
        Scenes.facts(x, true, 0, 2, 0, 0, 0, 0, 0);
        Check.gives("nor of what was RESTORED", -1, () -> x.find(true, 0, 0));
    }

    private static void terms1OnceInADirectory() {
        TapeVault x = new TapeVault();
        Check.fails("NAME 0", ARGUMENT, () -> x.make(0, 0, true));
        Check.fails("NAME 30001", ARGUMENT, () -> x.make(0, 30001, true));
        Check.gives("NAME 1", 1, () -> x.make(0, 1, true));
        Check.gives("NAME 30000", 2, () -> x.make(0, 30000, true));
        Check.fails("twice", STATE, () -> x.make(0, 1, false));
        Check.fails("twice, by move()", STATE, () -> x.move(2, 0, 1));
        Check.gives("once in each DIRECTORY", 3, () -> x.make(1, 1, false));
        Check.gives("once in each DIRECTORY", 4, () -> x.make(2, 1, false));
        Check.gives("each is found", 3, () -> x.find(false, 1, 1));
        Check.gives("each is found", 4, () -> x.find(false, 2, 1));
    }

    private static void terms1OctetsUpTo512() {
        TapeVault x = Scenes.file(504);
        Check.gives("512", 512, () -> x.write(1, 504, -1L));
        for (int at = 505; at <= 512; at++) {
            int above = at;
            Check.fails("write at " + at, BOUNDS, () -> x.write(1, above, 0L));
        }
        Scenes.facts(x, false, 1, 1, 0, 1, 512);
        Check.gives("the last one", 255, () -> x.octet(false, 1, 511));
        Check.fails("there is none behind it", BOUNDS, () -> x.octet(false, 1, 512));
    }

    private static void terms1EachCallThatIsDone() {
        TapeVault x = new TapeVault();
        Check.Deed[] done = {() -> x.make(0, 1, false), () -> x.make(0, 2, true), () -> x.write(1, 0, 0L),
            () -> x.write(1, 0, 0L), () -> x.cut(1, 8), () -> x.cut(1, 0), () -> x.move(1, 2, 1),
            () -> x.move(1, 2, 1), () -> x.remove(1), () -> x.remove(2)};
        for (int i = 0; i < done.length; i++) {
            done[i].doIt();
            Check.gives("call " + (i + 1), i + 1, () -> x.count(0));
        }
        Check.Deed[] others = {() -> x.make(0, 0, false), () -> x.write(1, 0, 0L), () -> x.cut(1, 0),
            () -> x.move(1, 0, 1), () -> x.remove(1), () -> x.dump(0), () -> x.dump(10), () -> x.spoil(0, 1),
            () -> x.tape(0, 0, 0), () -> x.restore(0), () -> x.node(false, 0, 0), () -> x.octet(false, 0, 0),
            () -> x.find(false, 0, 1), () -> x.begin(3)};
        for (int i = 0; i < others.length; i++) {
            Check.told(others[i]);
            Check.gives("refused or no change: " + i, done.length, () -> x.count(0));
        }
    }

    private static void stamp(String what, TapeVault x, int node, int want) {
        Check.gives(what + ": STAMP of " + node, want, () -> x.node(false, node, 4));
    }

    private static void terms1StampOfFiles() {
        TapeVault x = Scenes.deep();
        stamp("made", x, 5, 5);
        x.write(5, 0, 0L);
        stamp("written", x, 5, 6);
        x.cut(5, 0);
        stamp("cut", x, 5, 7);
        x.move(5, 2, 9);
        stamp("moved", x, 5, 8);
        x.make(0, 5, false);
        x.move(2, 0, 7);
        x.dump(0);
        stamp("its DIRECTORY moved", x, 5, 8);
        Check.told(() -> x.write(5, 9, 0L));
        Check.told(() -> x.move(5, 0, 5));
        stamp("refused", x, 5, 8);
    }

    private static void terms1StampOfDirectories() {
        TapeVault x = Scenes.deep();
        stamp("made", x, 4, 4);
        stamp("one made in it", x, 3, 4);
        stamp("one made below, not in it", x, 1, 3);
        x.write(5, 0, 0L);
        stamp("one written in it", x, 0, 5);
        x.cut(5, 0);
        stamp("one cut in it", x, 0, 5);
        x.move(5, 0, 50);
        stamp("one moved within", x, 0, 8);
        x.move(4, 2, 4);
        stamp("moved", x, 4, 9);
        stamp("one moved out of it", x, 3, 9);
        stamp("one moved in", x, 2, 9);
        stamp("one moved below it, not in it", x, 1, 3);
        stamp("the one above both", x, 0, 8);
        x.remove(3);
        stamp("one removed in it", x, 1, 10);
        stamp("one removed below it", x, 0, 8);
    }

    private static void terms1TimeFirst() {
        TapeVault x = new TapeVault();
        x.make(0, 1, true);
        stamp("made", x, 1, 1);
        stamp("one made in it", x, 0, 1);
        Check.gives("TIME", 1, () -> x.count(0));
        x.make(0, 2, true);
        x.make(1, 3, false);
        x.move(3, 2, 3);
        for (int node = 1; node <= 3; node++) {
            stamp("all of one call have one TIME", x, node, 4);
        }
        Check.gives("TIME", 4, () -> x.count(0));
    }

    private static void terms1AtFirst() {
        TapeVault x = new TapeVault();
        Check.gives("TIME", 0, () -> x.count(0));
        Check.gives("NODES that are there", 1, () -> x.count(1));
        Check.gives("STAMP of 0", 0, () -> x.node(false, 0, 4));
        for (int n = 1; n < 256; n++) {
            int node = n;
            Check.gives("NODE " + n, 0, () -> x.node(false, node, 0));
        }
    }

    private static void terms2WhatIsNotSaidIs0() {
        TapeVault x = Scenes.file(512);
        // rows that held other octets are used again behind begin()
        Scenes.dumps(x, 0, 3);
        x.begin(6);
        x.make(0, 0x1234, false);
        x.write(1, 0, 0x0102030405060708L);
        x.cut(1, 3);
        x.dump(0);
        Scenes.block(x, 0, 0, 76);
        Scenes.block(x, 0, 1, 72, 0, 0, 0, 0, 0, 0, 3, 0, 0, 0, 2);
        Scenes.block(x, 0, 2, 77, 0xC0);
        Scenes.block(x, 0, 3, 73, 2, 0, 2, 1, 2);
        Scenes.block(x, 0, 4, 78, 0, 2, 0, 0, 0, 0, 1, 0, 0, 0, 1);
        Scenes.block(x, 0, 5, 0x12, 0x34, 1);
        Scenes.block(x, 1, 0, 76, 0, 1);
        Scenes.block(x, 1, 1, 78, 1, 1, 0x12, 0x34, 0, 0, 3, 0, 0, 0, 3);
        Scenes.block(x, 1, 2, 1, 2, 3);
        Check.gives("BLOCKS", 9, () -> x.count(4));
    }

    private static void terms2OneBehindTheOther() {
        for (int size : new int[] {4, 5, 7, 1000}) {
            TapeVault x = new TapeVault();
            x.begin(size);
            Scenes.dumps(x, 0, 5);
            for (int i = 0; i < 20; i++) {
                int place = i / (size - 1) * size + 1 + i % (size - 1);
                int mark = new int[] {72, 77, 73, 78}[i % 4];
                Check.gives("VOLUMES of " + size + ", BLOCK " + i, mark,
                        () -> Scenes.octet(x, place / size, place % size, 0));
            }
        }
    }

    private static void terms2Label() {
        TapeVault x = Scenes.full(4);
        Scenes.dumps(x, 0, 10);
        for (int volume : new int[] {0, 1, 255, 256, 257, 511, 512, 933}) {
            Scenes.block(x, volume, 0, 76, volume / 256, volume % 256);
        }
        Check.gives("VOLUMES", 934, () -> x.count(3));
    }

    private static void terms2LabelComesLate() {
        TapeVault x = new TapeVault();
        x.begin(5);
        Scenes.counts(x, 3, 0, 0);
        Check.fails("the first LABEL", BOUNDS, () -> x.tape(0, 0, 0));
        x.dump(0);
        Scenes.counts(x, 3, 1, 5);
        Check.fails("the LABEL behind a full VOLUME", BOUNDS, () -> x.tape(1, 0, 0));
        x.dump(1);
        Scenes.counts(x, 3, 2, 8);
        Scenes.block(x, 1, 0, 76, 0, 1);
        Scenes.block(x, 1, 1, 72, 1, 0, 1, 0, 0, 0, 0, 0, 1, 0, 0);
        x.begin(4);
        x.dump(0);
        Scenes.counts(x, 3, 2, 6);
    }

    private static void terms2AtMost4000Blocks() {
        TapeVault x = Scenes.full(4);
        Scenes.dumps(x, 0, 10);
        Check.gives("2800 and 934 LABELS", 3734, () -> x.count(4));
        Check.fails("3080 and 1027 LABELS", BOUNDS, () -> x.dump(0));
        x.cut(1, 0);
        Scenes.dumps(x, 5, 50);
        Check.gives("3000 and 1000 LABELS", 4000, () -> x.count(4));
        Check.gives("VOLUMES", 1000, () -> x.count(3));
        Scenes.block(x, 999, 0, 76, 3, 231);
        Scenes.block(x, 999, 3, 78, 1, 1, 0, 1, 0, 0, 0, 0, 0, 1, 0);
        Check.fails("3002 and 1001 LABELS", BOUNDS, () -> x.dump(9));
        Check.gives("all of it can be read", 0, () -> x.restore(59));
        withoutLabelsItWouldFit();
    }

    private static void withoutLabelsItWouldFit() {
        TapeVault x = Scenes.full(5);
        Scenes.dumps(x, 0, 11);
        Check.gives("3080 and 770 LABELS", 3850, () -> x.count(4));
        Check.fails("3360 and 840 LABELS", BOUNDS, () -> x.dump(0));
        x.cut(1, 0);
        Scenes.dumps(x, 5, 29);
        Check.gives("3196 and 799 LABELS", 3995, () -> x.count(4));
        Check.gives("3200 and 800 LABELS", 40, () -> x.dump(5));
        Check.gives("BLOCKS", 4000, () -> x.count(4));
        Check.fails("3202 and 801 LABELS", BOUNDS, () -> x.dump(9));
    }

    private static void terms2AtMost100Dumps() {
        TapeVault x = new TapeVault();
        Scenes.dumps(x, 5, 99);
        Check.gives("the hundredth", 99, () -> x.dump(9));
        Check.fails("one more", BOUNDS, () -> x.dump(9));
        Check.gives("DUMPS", 100, () -> x.count(2));
        x.begin(64);
        Check.gives("behind begin()", 0, () -> x.dump(9));
    }

    private static void terms2Levels() {
        TapeVault x = new TapeVault();
        Check.fails("level -1", ARGUMENT, () -> x.dump(-1));
        Check.fails("level 10", ARGUMENT, () -> x.dump(10));
        for (int level = 0; level <= 9; level++) {
            int at = Math.max(1, x.count(4));
            x.dump(level);
            int written = level;
            Check.gives("level " + level, written, () -> Scenes.octet(x, 0, at, 1));
        }
    }

    /** The BASE's number and 1, as the HEAD of a new DUMP tells it. */
    private static int baseOf(TapeVault x, int level) {
        int at = Math.max(1, x.count(4));
        x.dump(level);
        return (int) (x.tape(0, at, 1) >>> 48);
    }

    private static void terms2LatestOfALowerLevel() {
        TapeVault x = new TapeVault();
        x.begin(1000);
        int[] levels = {3, 3, 4, 4, 9, 9, 5, 0, 9, 1, 1, 2, 9, 8};
        int[] bases = {0, 0, 2, 2, 4, 4, 4, 0, 8, 8, 8, 11, 12, 12};
        for (int i = 0; i < levels.length; i++) {
            int level = levels[i];
            Check.gives("BASE of DUMP " + i + ", level " + level, bases[i], () -> baseOf(x, level));
        }
    }

    private static void terms2NoBase() {
        TapeVault x = new TapeVault();
        x.begin(1000);
        Check.gives("the first, level 9", 0, () -> baseOf(x, 9));
        Check.gives("the same level", 0, () -> baseOf(x, 9));
        Check.gives("a lower level", 0, () -> baseOf(x, 1));
        Check.gives("level 0", 0, () -> baseOf(x, 0));
        Check.gives("level 0 again", 0, () -> baseOf(x, 0));
        Check.gives("a higher level", 5, () -> baseOf(x, 1));
        x.restore(4);
        Check.gives("without a BASE the CHAIN is it alone", 1, () -> x.count(5));
        x.begin(1000);
        Check.gives("behind begin()", 0, () -> baseOf(x, 5));
    }

    /** How many are CHANGED, as the HEAD of a new DUMP tells it. */
    private static int changedOf(TapeVault x, int level) {
        int at = Math.max(1, x.count(4));
        x.dump(level);
        return (int) (x.tape(0, at, 1) >>> 32 & 0xFFFF);
    }

    private static void terms2ChangedAreThere() {
        TapeVault x = Scenes.deep();
        x.dump(0);
        x.write(5, 0, -1L);
        x.remove(5);
        Check.gives("0 alone, 5 is none", 1, () -> changedOf(x, 1));
        x.make(2, 5, true);
        x.remove(4);
        int at = x.count(4);
        Check.gives("2, 3 and what is 5 now", 3, () -> changedOf(x, 2));
        Scenes.block(x, 0, at + 1, 77, 0xF0 + 4);
        Scenes.block(x, 0, at + 2, 73, 3, 2, 2, 3, 1, 5, 1);
    }

    private static void terms2StampAboveTheBase() {
        TapeVault x = Scenes.deep();
        x.begin(1000);
        x.make(0, 1, false);
        x.make(0, 2, false);
        Check.gives("all", 3, () -> changedOf(x, 0));
        Check.gives("STAMPS that are the BASE's TIME", 0, () -> changedOf(x, 1));
        x.cut(2, 0);
        Check.gives("one that is 1 more", 1, () -> changedOf(x, 1));
        Check.gives("a DUMP of that level is no BASE", 1, () -> changedOf(x, 1));
        Check.gives("the BASE is DUMP 3", 0, () -> changedOf(x, 2));
        x.cut(1, 0);
        Check.gives("since DUMP 3", 1, () -> changedOf(x, 2));
        Check.gives("since DUMP 0", 2, () -> changedOf(x, 1));
    }

    private static void terms2AllWithoutABase() {
        TapeVault x = new TapeVault();
        x.begin(1000);
        Check.gives("STAMP 0 at TIME 0", 1, () -> changedOf(x, 5));
        x.make(0, 1, false);
        Check.gives("level 5, the same level before", 2, () -> changedOf(x, 5));
        Check.gives("level 0", 2, () -> changedOf(x, 0));
        Check.gives("level 0, none since", 2, () -> changedOf(x, 0));
        TapeVault y = Scenes.full(1000);
        Check.gives("256", 256, () -> changedOf(y, 9));
    }

    private static void terms2BehindWhatIsThere() {
        TapeVault x = Scenes.small();
        String before = Scenes.all(x);
        Check.gives("BLOCKS", 11, () -> x.count(4));
        TapeVault y = Scenes.small();
        y.dump(0);
        Scenes.block(y, 0, 11, 72, 0, 0, 1, 0, 0, 0, 11, 0, 0, 0, 3);
        Scenes.block(y, 0, 20, 7, 7, 7, 7, 7, 7, 7, 7);
        Check.gives("BLOCKS", 21, () -> y.count(4));
        int first = before.indexOf(" tape 0 0 ");
        int last = before.indexOf(" tape 0 11 ");
        Check.same("what was there stays", Scenes.all(y).contains(before.substring(first, last)), true);
    }

    private static void terms2Head() {
        TapeVault x = Scenes.full(1000);
        Check.gives("DUMP 0", 0, () -> x.dump(9));
        Scenes.block(x, 0, 1, 72, 9, 0, 0, 0, 0, 0, 255, 0, 0, 1, 0);
        x.cut(7, 0);
        int at = x.count(4);
        Check.gives("DUMP 1, without a BASE", 1, () -> x.dump(0));
        Scenes.block(x, 0, at, 72, 0, 0, 1, 0, 0, 1, 0, 0, 0, 1, 0);
        x.cut(7, 0);
        int next = x.count(4);
        Check.gives("DUMP 2, the BASE is 1", 2, () -> x.dump(1));
        Scenes.block(x, 0, next, 72, 1, 0, 2, 0, 0, 1, 1, 0, 2, 0, 1);
        TapeVault y = new TapeVault();
        y.begin(1000);
        Scenes.dumps(y, 0, 99);
        y.dump(1);
        Scenes.block(y, 0, 397, 72, 1, 0, 99, 0, 0, 0, 0, 0, 99, 0, 0);
        TapeVault z = new TapeVault();
        z.dump(0);
        z.dump(1);
        Scenes.block(z, 0, 5, 72, 1, 0, 1, 0, 0, 0, 0, 0, 1, 0, 0);
    }

    private static void terms2Map() {
        TapeVault x = Scenes.full(1000);
        x.dump(0);
        int[] all = new int[33];
        java.util.Arrays.fill(all, 255);
        all[0] = 77;
        Scenes.block(x, 0, 2, all);
        for (int node : new int[] {1, 7, 8, 15, 16, 247, 248, 254, 255}) {
            x.remove(node);
        }
        int at = x.count(4);
        x.dump(0);
        int[] fewer = all.clone();
        fewer[1] = 0b10111110;
        fewer[2] = 0b01111110;
        fewer[3] = 0b01111111;
        fewer[31] = 0b11111110;
        fewer[32] = 0b01111100;
        Scenes.block(x, 0, at + 1, fewer);
        TapeVault y = new TapeVault();
        y.dump(0);
        Scenes.block(y, 0, 2, 77, 0x80);
    }

    private static void terms2IndexAsManyAsItNeeds() {
        int[] files = {0, 29, 30, 31, 60, 61, 62, 92, 93, 247, 248, 254, 255};
        for (int n : files) {
            TapeVault x = Scenes.wide(1000, n);
            x.dump(0);
            int needed = (n + 1 + 30) / 31;
            int before = 2 + needed;
            Check.gives("the last INDEX of " + (n + 1), 73, () -> Scenes.octet(x, 0, before, 0));
            Check.gives("how many are in it", n + 1 - 31 * (needed - 1), () -> Scenes.octet(x, 0, before, 1));
            Check.gives("the FACTS behind it", 78, () -> Scenes.octet(x, 0, before + 1, 0));
            Check.gives("BLOCKS", 1 + 2 + needed + 1 + n + (n + 20) / 21, () -> x.count(4));
        }
    }

    private static void terms2IndexOfUpTo31() {
        TapeVault x = Scenes.wide(1000, 31);
        for (int at = 0; at < 512; at += 8) {
            x.write(30, at, 0L);
        }
        x.write(31, 0, 0L);
        x.dump(0);
        int[] first = new int[64];
        first[0] = 73;
        first[1] = 31;
        for (int i = 0; i < 31; i++) {
            first[2 + 2 * i] = i;
            first[3 + 2 * i] = i == 0 ? 3 : i == 30 ? 9 : 1;
        }
        Scenes.block(x, 0, 3, first);
        Scenes.block(x, 0, 4, 73, 1, 31, 2);
        TapeVault y = Scenes.full(1000);
        y.dump(0);
        Check.gives("255 entries take 14", 14, () -> Scenes.octet(y, 0, 3, 3));
        Scenes.block(y, 0, 11, 73, 8, 248, 1, 249, 1, 250, 1, 251, 1, 252, 1, 253, 1, 254, 1, 255, 1);
    }

    private static void terms2NoneChangedNoIndex() {
        TapeVault x = Scenes.small();
        int at = x.count(4);
        x.dump(1);
        Scenes.block(x, 0, at, 72, 1, 0, 1, 0, 0, 0, 11, 0, 1, 0, 0);
        Scenes.block(x, 0, at + 1, 77, 0xE0);
        Check.gives("HEAD and MAP alone", at + 2, () -> x.count(4));
        Check.gives("it can be RESTORED", 0, () -> x.restore(1));
        Check.gives("BLOCKS that were read", 12, () -> x.count(7));
        Scenes.facts(x, true, 2, 1, 1, 20, 72, 11, 0);
    }

    private static void terms2NodesByNumbers() {
        TapeVault x = Scenes.deep();
        x.move(1, 2, 1);
        x.remove(4);
        x.make(0, 9, true);
        x.cut(5, 0);
        x.dump(0);
        // HEAD 1, MAP 2, INDEX 3; 0 and 2 have entries, 1 has one, 3, 4 and 5 have none
        int[] marks = {4, 6, 8, 10, 11, 12};
        for (int node = 0; node <= 5; node++) {
            int due = node;
            Check.gives("FACTS of " + node, 78, () -> Scenes.octet(x, 0, marks[due], 0));
            Check.gives("number", due, () -> Scenes.octet(x, 0, marks[due], 1));
            Check.gives("number in the INDEX", due, () -> Scenes.octet(x, 0, 3, 2 + 2 * due));
        }
        Check.gives("BLOCKS", 13, () -> x.count(4));
    }

    private static void terms2Facts() {
        TapeVault x = Scenes.full(1000);
        x.remove(255);
        x.make(0, 30000, true);
        x.move(254, 255, 29999);
        for (int at = 0; at < 512; at += 8) {
            x.write(254, at, -1L);
        }
        x.dump(0);
        // HEAD, MAP, 9 of INDEX; 254 entries of 0: 13 BLOCKS; 254 has 8 of octets, 255 one of entries
        Scenes.block(x, 0, 12, 78, 0, 2, 0, 0, 0, 0, 254, 0, 0, 1, 2);
        Scenes.block(x, 0, 26, 78, 1, 1, 0, 1, 0, 0, 0, 0, 0, 0, 1);
        Scenes.block(x, 0, 279, 78, 254, 1, 29999 / 256, 29999 % 256, 255, 2, 0, 0, 0, 1, 66);
        Scenes.block(x, 0, 288, 78, 255, 2, 30000 / 256, 30000 % 256, 0, 0, 1, 0, 0, 1, 2);
        Check.gives("BLOCKS", 290, () -> x.count(4));
    }

    private static void terms2Octets64ABlock() {
        for (int size : new int[] {0, 1, 8, 63, 64, 65, 127, 128, 129, 448, 449, 511, 512}) {
            TapeVault x = Scenes.file(size);
            x.dump(0);
            int blocks = (size + 63) / 64;
            Check.gives("BLOCKS of " + size, 7 + blocks, () -> x.count(4));
            Check.gives("INDEX of " + size, 1 + blocks, () -> Scenes.octet(x, 0, 3, 5));
            for (int b = 0; b < blocks; b++) {
                int[] octets = new int[Math.min(64, size - 64 * b)];
                for (int k = 0; k < octets.length; k++) {
                    octets[k] = (64 * b + k) % 251 + 1;
                }
                Scenes.block(x, 0, 7 + b, octets);
            }
        }
    }

    private static void terms2EntriesByNames() {
        TapeVault x = new TapeVault();
        for (int name : new int[] {300, 30000, 1, 255, 256, 128}) {
            x.make(0, name, false);
        }
        x.move(2, 0, 2);
        x.dump(0);
        Scenes.block(x, 0, 5, 0, 1, 3, 0, 2, 2, 0, 128, 6, 0, 255, 4, 1, 0, 5, 1, 44, 1);
        x.move(3, 0, 30000);
        x.remove(4);
        x.dump(0);
        // 12 BLOCKS before: the LABEL, HEAD, MAP, INDEX, 2 of 0, 6 of FACTS; so entries are at 16
        Scenes.block(x, 0, 16, 0, 2, 2, 0, 128, 6, 1, 0, 5, 1, 44, 1, 117, 48, 3);
    }

    private static void terms2Entries21ABlock() {
        for (int entries : new int[] {0, 1, 20, 21, 22, 42, 43, 252, 253, 255}) {
            TapeVault x = Scenes.wide(1000, entries);
            x.dump(0);
            int facts = 3 + (entries + 31) / 31;
            int blocks = (entries + 20) / 21;
            Check.gives("INDEX of " + entries, 1 + blocks, () -> Scenes.octet(x, 0, 3, 3));
            for (int b = 0; b < blocks; b++) {
                int[] octets = new int[3 * Math.min(21, entries - 21 * b)];
                for (int e = 0; e < octets.length / 3; e++) {
                    octets[3 * e + 1] = 21 * b + e + 1;
                    octets[3 * e + 2] = 21 * b + e + 1;
                }
                Scenes.block(x, 0, facts + 1 + b, octets);
            }
            Check.gives("BLOCKS of " + entries, facts + 1 + blocks + entries, () -> x.count(4));
        }
    }
}
