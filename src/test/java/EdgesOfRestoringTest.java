import java.util.Arrays;
import java.util.List;
import java.util.function.Consumer;

/** Terms 3 and promise 11: a test for each sentence that names a boundary case. */
public final class EdgesOfRestoringTest {
    private static final Class<IllegalArgumentException> ARGUMENT = IllegalArgumentException.class;
    private static final Class<IllegalStateException> STATE = IllegalStateException.class;
    private static final Class<IndexOutOfBoundsException> BOUNDS = IndexOutOfBoundsException.class;

    public static void main(String[] args) {
        chains();
        losses();
        throwing();
        restore();
        Check.end();
    }

    private static void chains() {
        Check.sentence("Terms 3", "the CHAIN is it, its BASE, the BASE of that .., the last one first",
                EdgesOfRestoringTest::terms3Chain);
        Check.sentence("Terms 3", "None can be read of which HEAD", EdgesOfRestoringTest::terms3SpoiledHead);
        Check.sentence("Terms 3", "MAP or", EdgesOfRestoringTest::terms3SpoiledMap);
        Check.sentence("Terms 3", "an INDEX is SPOILED", EdgesOfRestoringTest::terms3SpoiledIndex);
        Check.sentence("Terms 3", "From nothing", EdgesOfRestoringTest::terms3FromNothing);
        Check.sentence("Terms 3", "NODES that are not in its MAP are none", EdgesOfRestoringTest::terms3NotInItsMap);
        Check.sentence("Terms 3", "(and not LOST any more)", EdgesOfRestoringTest::terms3NotLostAnyMore);
    }

    private static void losses() {
        Check.sentence("Terms 3", "if the FACTS are SPOILED the NODE is LOST",
                EdgesOfRestoringTest::terms3SpoiledFacts);
        Check.sentence("Terms 3", "(and else what it was before, with all that was in it",
                EdgesOfRestoringTest::terms3WhatItWasBefore);
        Check.sentence("Terms 3", "none, if nothing)", EdgesOfRestoringTest::terms3NoneIfNothing);
        Check.sentence("Terms 3", "else it is LOST if a BLOCK of what is in it is SPOILED",
                EdgesOfRestoringTest::terms3BlockOfWhatIsInIt);
        Check.sentence("Terms 3", "(64 octets of a FILE are 0 then, as many as it has there",
                EdgesOfRestoringTest::terms3OctetsAre0);
        Check.sentence("Terms 3", "those entries are not there)", EdgesOfRestoringTest::terms3EntriesAreNotThere);
        Check.sentence("Terms 3", "Is it CHANGED again in a later DUMP of the CHAIN it is LOST by that one alone.",
                EdgesOfRestoringTest::terms3LostByTheLaterOneAlone);
        Check.sentence("Terms 3", "(A LABEL that is SPOILED does no harm.)", EdgesOfRestoringTest::terms3SpoiledLabel);
    }

    private static void throwing() {
        Check.sentence("Terms 3", "Of several exceptions of a call the one that its words name first is thrown",
                EdgesOfRestoringTest::terms3TheOneNamedFirst);
        Check.sentence("Terms 3", "A call that throws changes nothing",
                EdgesOfRestoringTest::terms3ThrowsChangesNothing);
    }

    private static void restore() {
        Check.sentence("Promise 11", "0 without anything LOST", EdgesOfRestoringTest::promise11ZeroWithoutAnythingLost);
        Check.sentence("Promise 11", "1 with", EdgesOfRestoringTest::promise11OneWith);
        Check.sentence("Promise 11", "2: a DUMP of its CHAIN can not be read",
                EdgesOfRestoringTest::promise11TwoCanNotBeRead);
        Check.sentence("Promise 11", "(nothing is RESTORED then)",
                EdgesOfRestoringTest::promise11NothingIsRestoredThen);
        Check.sentence("Promise 11", "What was RESTORED before is gone then, too",
                EdgesOfRestoringTest::promise11WhatWasBeforeIsGone);
        Check.sentence("Promise 11", "where it throws it stays", EdgesOfRestoringTest::promise11WhereItThrowsItStays);
        Check.sentence("Promise 11", "A DUMP is RESTORED", EdgesOfRestoringTest::promise11RestoredStaysAsItWas);
        Check.sentence("Promise 11", "IndexOutOfBoundsException: there is none.",
                EdgesOfRestoringTest::promise11ThereIsNone);
    }

    private static void octet(TapeVault x, int k, int want) {
        Check.gives("octet " + k + " of 2", want, () -> x.octet(true, 2, k));
    }

    private static void restored(TapeVault x, int dump, int want) {
        Check.gives("restore(" + dump + ")", want, () -> x.restore(dump));
    }

    private static void terms3Chain() {
        TapeVault x = new TapeVault();
        x.make(0, 1, false);
        for (int level = 0; level <= 9; level++) {
            x.write(1, 0, level);
            x.dump(level);
        }
        for (int dump = 0; dump <= 9; dump++) {
            int last = dump;
            restored(x, dump, 0);
            Check.gives("DUMPS of its CHAIN", last + 1, () -> x.count(5));
            Check.gives("what the last one says", last, () -> x.octet(true, 1, 7));
        }
        x.dump(5);
        restored(x, 10, 0);
        Check.gives("DUMPS 0 to 4, and 10", 6, () -> x.count(5));
        x.dump(0);
        restored(x, 11, 0);
        Check.gives("itself alone", 1, () -> x.count(5));
    }

    /** DUMPS: 0 of level 0, 1 of level 5 on it, 2 of level 3 on 0 again, 3 of level 0; 2 is in each. */
    private static TapeVault fourDumps() {
        TapeVault x = Scenes.small();
        x.write(2, 0, 0L);
        x.dump(5);
        x.dump(3);
        x.dump(0);
        return x;
    }

    /** One BLOCK of DUMP 0 (at the VOLUME's begin) or 1 (behind 11 BLOCKS) is SPOILED. */
    private static void spoiledFor(int block) {
        TapeVault x = fourDumps();
        x.spoil(0, 1 + block);
        int[] due = {2, 2, 2, 0};
        for (int dump = 0; dump < 4; dump++) {
            restored(x, dump, due[dump]);
        }
        TapeVault y = fourDumps();
        y.spoil(0, 11 + block);
        int[] dueThen = {0, 2, 0, 0};
        for (int dump = 0; dump < 4; dump++) {
            restored(y, dump, dueThen[dump]);
        }
    }

    private static void terms3SpoiledHead() {
        spoiledFor(0);
    }

    private static void terms3SpoiledMap() {
        spoiledFor(1);
    }

    private static void terms3SpoiledIndex() {
        spoiledFor(2);
        for (int block : new int[] {3, 4, 11}) {
            TapeVault x = Scenes.full(1000);
            x.dump(0);
            x.spoil(0, block);
            Check.gives("INDEX at " + block, 2, () -> x.restore(0));
        }
        TapeVault x = Scenes.full(1000);
        x.dump(0);
        x.spoil(0, 12);
        Check.gives("FACTS behind the last INDEX", 1, () -> x.restore(0));
        TapeVault y = Scenes.small();
        y.dump(1);
        y.dump(0);
        y.spoil(0, 13);
        Check.gives("what is behind a DUMP without an INDEX", 0, () -> y.restore(1));
    }

    private static void terms3FromNothing() {
        TapeVault x = Scenes.small();
        x.make(0, 30, false);
        x.dump(1);
        x.spoil(0, 8);
        restored(x, 1, 1);
        x.begin(64);
        x.make(0, 5, true);
        x.dump(0);
        x.make(1, 6, false);
        x.dump(1);
        restored(x, 1, 0);
        Scenes.facts(x, true, 2, 1, 1, 6, 0, 2, 0);
        restored(x, 0, 0);
        Scenes.facts(x, true, 2, 0, 0, 0, 0, 0, 0);
        Scenes.facts(x, true, 1, 2, 0, 5, 0, 1, 0);
        Check.gives("no entry of a later DUMP", -1, () -> x.find(true, 1, 6));
    }

    private static void terms3NotInItsMap() {
        TapeVault x = Scenes.small();
        x.remove(2);
        x.dump(1);
        x.make(1, 20, true);
        x.dump(2);
        restored(x, 0, 0);
        Scenes.facts(x, true, 2, 1, 1, 20, 72, 11, 0);
        restored(x, 1, 0);
        Scenes.facts(x, true, 2, 0, 0, 0, 0, 0, 0);
        Check.fails("it has no octets", ARGUMENT, () -> x.octet(true, 2, 0));
        restored(x, 2, 0);
        Scenes.facts(x, true, 2, 2, 1, 20, 0, 13, 0);
        lastNodeNotInTheMap();
    }

    private static void lastNodeNotInTheMap() {
        TapeVault x = Scenes.full(1000);
        x.dump(0);
        x.remove(255);
        x.remove(8);
        x.dump(1);
        restored(x, 1, 0);
        for (int node : new int[] {7, 9, 254}) {
            Check.gives("NODE " + node, 1, () -> x.node(true, node, 0));
        }
        Scenes.facts(x, true, 255, 0, 0, 0, 0, 0, 0);
        Scenes.facts(x, true, 8, 0, 0, 0, 0, 0, 0);
    }

    private static void terms3NotLostAnyMore() {
        TapeVault x = Scenes.small();
        x.remove(2);
        x.dump(1);
        int at = x.count(4);
        x.make(1, 20, false);
        x.dump(2);
        x.spoil(0, 8);
        restored(x, 0, 1);
        Scenes.facts(x, true, 2, 0, 0, 0, 0, 0, 1);
        restored(x, 1, 0);
        Scenes.facts(x, true, 2, 0, 0, 0, 0, 0, 0);
        Check.gives("LOST", 0, () -> x.count(6));
        restored(x, 2, 0);
        Scenes.facts(x, true, 2, 1, 1, 20, 0, 13, 0);
        // DUMP 2: HEAD, MAP, INDEX, FACTS and entries of 1, FACTS of 2
        x.spoil(0, at + 5);
        restored(x, 2, 1);
        Scenes.facts(x, true, 2, 0, 0, 0, 0, 0, 1);
    }

    private static void terms3SpoiledFacts() {
        for (int[] blockAndNode : new int[][] {{4, 0}, {6, 1}, {8, 2}}) {
            TapeVault x = Scenes.small();
            x.spoil(0, blockAndNode[0]);
            restored(x, 0, 1);
            for (int node = 0; node < 3; node++) {
                int asked = node;
                Check.gives("NODE " + node + " LOST", node == blockAndNode[1] ? 1 : 0, () -> x.node(true, asked, 5));
                Check.gives("NODE " + node, node == blockAndNode[1] ? 0 : node == 2 ? 1 : 2, () -> x.node(true, asked, 0));
            }
            Check.gives("LOST", 1, () -> x.count(6));
        }
        TapeVault x = Scenes.full(1000);
        x.dump(0);
        x.spoil(0, 280);
        restored(x, 0, 1);
        Scenes.facts(x, true, 255, 0, 0, 0, 0, 0, 1);
        Scenes.facts(x, true, 254, 1, 0, 254, 0, 254, 0);
    }

    private static void terms3WhatItWasBefore() {
        TapeVault x = Scenes.small();
        int at = x.count(4);
        x.move(2, 0, 40);
        x.write(2, 0, 0L);
        x.dump(1);
        // HEAD, MAP, INDEX, FACTS and entries of 0, FACTS of 1, FACTS of 2 and two of octets
        x.spoil(0, at + 5);
        x.spoil(0, at + 6);
        restored(x, 1, 1);
        Scenes.facts(x, true, 2, 1, 1, 20, 72, 11, 1);
        octet(x, 0, 7);
        octet(x, 71, 7);
        Scenes.facts(x, true, 1, 2, 0, 10, 1, 2, 1);
        Check.gives("the entry of 1", 2, () -> x.find(true, 1, 20));
        Check.gives("the entry of 0", 2, () -> x.find(true, 0, 40));
        beforeItWasAnotherKind();
        beforeItHadLosses();
    }

    private static void beforeItWasAnotherKind() {
        TapeVault x = Scenes.small();
        int at = x.count(4);
        x.remove(2);
        x.make(0, 50, true);
        x.dump(1);
        // HEAD, MAP, INDEX, FACTS and entries of 0, FACTS of 1, FACTS of 2
        x.spoil(0, at + 6);
        restored(x, 1, 1);
        Scenes.facts(x, true, 2, 1, 1, 20, 72, 11, 1);
        octet(x, 71, 7);
    }

    private static void beforeItHadLosses() {
        TapeVault x = Scenes.small();
        int at = x.count(4);
        x.cut(2, 1);
        x.dump(1);
        x.spoil(0, 9);
        x.spoil(0, at + 3);
        restored(x, 1, 1);
        Scenes.facts(x, true, 2, 1, 1, 20, 72, 11, 1);
        octet(x, 63, 0);
        octet(x, 64, 7);
    }

    private static void terms3NoneIfNothing() {
        TapeVault x = Scenes.small();
        int at = x.count(4);
        x.make(0, 30, false);
        x.write(3, 0, -1L);
        x.dump(1);
        // HEAD, MAP, INDEX, FACTS and entries of 0, FACTS and octets of 3
        x.spoil(0, at + 5);
        restored(x, 1, 1);
        Scenes.facts(x, true, 3, 0, 0, 0, 0, 0, 1);
        Check.fails("it is no FILE", ARGUMENT, () -> x.octet(true, 3, 0));
        Check.gives("its entry is there", 3, () -> x.find(true, 0, 30));
        x.spoil(0, 4);
        x.spoil(0, at + 3);
        restored(x, 1, 1);
        Scenes.facts(x, true, 0, 0, 0, 0, 0, 0, 1);
        Check.fails("0 is no DIRECTORY", ARGUMENT, () -> x.find(true, 0, 30));
    }

    private static void terms3BlockOfWhatIsInIt() {
        int[][] blockAndNode = {{5, 0}, {7, 1}, {9, 2}, {10, 2}};
        for (int[] row : blockAndNode) {
            TapeVault x = Scenes.small();
            x.spoil(0, row[0]);
            restored(x, 0, 1);
            Scenes.facts(x, true, 0, 2, 0, 0, 1, 1, row[1] == 0 ? 1 : 0);
            Scenes.facts(x, true, 1, 2, 0, 10, 1, 2, row[1] == 1 ? 1 : 0);
            Scenes.facts(x, true, 2, 1, 1, 20, 72, 11, row[1] == 2 ? 1 : 0);
        }
        TapeVault x = Scenes.file(512);
        x.dump(0);
        x.spoil(0, 14);
        Check.gives("the last of 8 BLOCKS", 1, () -> x.restore(0));
        Check.gives("it is LOST", 1, () -> x.node(true, 1, 5));
        TapeVault y = Scenes.full(1000);
        y.dump(0);
        y.spoil(0, 25);
        Check.gives("the last of 13 BLOCKS", 1, () -> y.restore(0));
        Check.gives("it is LOST", 1, () -> y.node(true, 0, 5));
        Check.gives("it alone", 1, () -> y.count(6));
    }

    private static void terms3OctetsAre0() {
        TapeVault x = Scenes.small();
        x.spoil(0, 9);
        x.restore(0);
        octet(x, 0, 0);
        octet(x, 63, 0);
        octet(x, 64, 7);
        octet(x, 71, 7);
        TapeVault y = Scenes.small();
        y.spoil(0, 10);
        y.restore(0);
        octet(y, 63, 7);
        octet(y, 64, 0);
        octet(y, 71, 0);
        Check.fails("as many as it has there", BOUNDS, () -> y.octet(true, 2, 72));
        y.spoil(0, 9);
        y.restore(0);
        octet(y, 0, 0);
        octet(y, 71, 0);
        Check.gives("LOST", 1, () -> y.count(6));
        TapeVault z = Scenes.file(512);
        z.dump(0);
        z.spoil(0, 14);
        z.restore(0);
        Check.gives("octet 447 of 512", 447 % 251 + 1, () -> z.octet(true, 1, 447));
        Check.gives("octet 448 of 512", 0, () -> z.octet(true, 1, 448));
        Check.gives("octet 511 of 512", 0, () -> z.octet(true, 1, 511));
    }

    private static void terms3EntriesAreNotThere() {
        TapeVault x = Scenes.full(1000);
        x.dump(0);
        // FACTS of 0 at 12, entries at 13 to 25
        x.spoil(0, 14);
        x.spoil(0, 25);
        restored(x, 0, 1);
        for (int n : new int[] {1, 2, 20, 21, 43, 44, 63, 64, 251, 252}) {
            Check.gives("entry " + n, n, () -> x.find(true, 0, n));
        }
        for (int n : new int[] {22, 23, 31, 41, 42, 253, 254, 255}) {
            Check.gives("entry " + n, -1, () -> x.find(true, 0, n));
        }
        Scenes.facts(x, true, 22, 1, 0, 22, 0, 22, 0);
        Scenes.facts(x, true, 0, 2, 0, 0, 255, 255, 1);
    }

    private static void terms3LostByTheLaterOneAlone() {
        TapeVault x = Scenes.small();
        int at = x.count(4);
        x.write(2, 0, -1L);
        x.dump(1);
        x.spoil(0, 9);
        restored(x, 0, 1);
        restored(x, 1, 0);
        Scenes.facts(x, true, 2, 1, 1, 20, 72, 12, 0);
        octet(x, 63, 7);
        x.spoil(0, 8);
        restored(x, 1, 0);
        Scenes.facts(x, true, 2, 1, 1, 20, 72, 12, 0);
        // DUMP 1: HEAD, MAP, INDEX, FACTS and two of octets of 2
        x.spoil(0, at + 5);
        restored(x, 1, 1);
        Scenes.facts(x, true, 2, 1, 1, 20, 72, 12, 1);
        octet(x, 0, 255);
        octet(x, 64, 0);
        notChangedAgain();
    }

    private static void notChangedAgain() {
        TapeVault x = Scenes.small();
        x.make(0, 30, false);
        x.dump(1);
        x.spoil(0, 10);
        restored(x, 1, 1);
        Scenes.facts(x, true, 2, 1, 1, 20, 72, 11, 1);
        Check.gives("2 alone is LOST", 1, () -> x.count(6));
    }

    private static void terms3SpoiledLabel() {
        TapeVault x = new TapeVault();
        x.begin(4);
        x.make(0, 1, false);
        x.write(1, 0, -1L);
        x.dump(0);
        x.cut(1, 1);
        x.dump(1);
        for (int volume = 0; volume < x.count(3); volume++) {
            x.spoil(volume, 0);
        }
        for (int dump = 0; dump < 2; dump++) {
            restored(x, dump, 0);
            Check.gives("LOST", 0, () -> x.count(6));
            Check.gives("an octet", 255, () -> x.octet(true, 1, 0));
        }
        Check.gives("BLOCKS that were read", 7 + 5, () -> x.count(7));
    }

    private static void terms3TheOneNamedFirst() {
        TapeVault x = Scenes.small();
        Check.fails("make()", ARGUMENT, () -> x.make(2, 10, false));
        Check.fails("write()", ARGUMENT, () -> x.write(1, -1, 0L));
        Check.fails("cut()", ARGUMENT, () -> x.cut(1, -1));
        Check.fails("move()", STATE, () -> x.move(1, 1, 20));
        Check.fails("remove()", ARGUMENT, () -> x.remove(0));
        Check.fails("tape()", ARGUMENT, () -> x.tape(9, 9, 9));
        Check.fails("node(): what, nothing RESTORED, NODE", ARGUMENT, () -> x.node(true, 256, 6));
        Check.fails("node(): nothing RESTORED, NODE", STATE, () -> x.node(true, 256, 5));
        Check.fails("octet(): nothing RESTORED, no FILE, no octet", STATE, () -> x.octet(true, 256, -1));
        Check.fails("octet(): no FILE, no octet", ARGUMENT, () -> x.octet(false, 256, -1));
        Check.fails("find(): nothing RESTORED, no DIRECTORY", STATE, () -> x.find(true, 256, -1));
    }

    /** Two DUMPS, some of them SPOILED, and what was RESTORED with losses. */
    private static TapeVault busy() {
        TapeVault x = Scenes.small();
        x.make(0, 20, false);
        x.dump(1);
        x.spoil(0, 9);
        x.spoil(0, 6);
        x.restore(1);
        x.write(2, 0, -1L);
        return x;
    }

    private static void terms3ThrowsChangesNothing() {
        String before = Scenes.all(busy());
        for (Consumer<TapeVault> refused : refusedTreeCalls()) {
            unchanged(before, refused);
        }
        for (Consumer<TapeVault> refused : refusedOtherCalls()) {
            unchanged(before, refused);
        }
    }

    private static List<Consumer<TapeVault>> refusedTreeCalls() {
        return Arrays.asList(x -> x.begin(3), x -> x.begin(1001), x -> x.make(2, 5, false), x -> x.make(0, 0, true),
                x -> x.make(0, 10, true), x -> x.make(9, 5, true), x -> x.write(1, 0, 0L), x -> x.write(2, -1, 0L),
                x -> x.write(2, 73, 0L), x -> x.write(3, 505, 0L), x -> x.cut(0, 0), x -> x.cut(2, 73),
                x -> x.cut(2, -1), x -> x.move(0, 1, 5), x -> x.move(2, 2, 5), x -> x.move(2, 0, 30001),
                x -> x.move(2, 0, 10), x -> x.move(1, 1, 5), x -> x.remove(0), x -> x.remove(7), x -> x.remove(1));
    }

    private static List<Consumer<TapeVault>> refusedOtherCalls() {
        return Arrays.asList(x -> x.dump(10), x -> x.dump(-1), x -> x.spoil(0, 63), x -> x.spoil(1, 0), x -> x.spoil(-1, 1),
                x -> x.tape(0, 1, 8), x -> x.tape(0, 63, 0), x -> x.tape(0, 9, 0), x -> x.restore(2), x -> x.restore(-1),
                x -> x.node(true, 0, 6), x -> x.node(true, 256, 0), x -> x.octet(true, 0, 0), x -> x.octet(true, 2, 72),
                x -> x.find(true, 2, 1), x -> x.find(false, 7, 1), x -> x.count(8), x -> x.count(-1));
    }

    private static void unchanged(String before, Consumer<TapeVault> refused) {
        TapeVault x = busy();
        String told = Check.told(() -> refused.accept(x));
        Check.same("it throws", told.startsWith("throws."), true);
        Check.same("all that is told behind it", Scenes.all(x), before);
    }

    private static void promise11ZeroWithoutAnythingLost() {
        TapeVault empty = new TapeVault();
        empty.dump(0);
        Check.gives("NODE 0 alone", 0, () -> empty.restore(0));
        TapeVault x = Scenes.full(1000);
        x.dump(9);
        restored(x, 0, 0);
        Scenes.facts(x, true, 255, 1, 0, 255, 0, 255, 0);
        TapeVault y = fourDumps();
        y.spoil(0, 9);
        Check.gives("what is SPOILED was CHANGED again", 0, () -> y.restore(1));
        Check.gives("what is SPOILED is not of its CHAIN", 0, () -> y.restore(3));
    }

    private static void promise11OneWith() {
        for (int block = 4; block <= 10; block++) {
            TapeVault x = Scenes.small();
            x.spoil(0, block);
            Check.gives("BLOCK " + block, 1, () -> x.restore(0));
        }
        TapeVault x = Scenes.small();
        for (int block = 4; block <= 10; block++) {
            x.spoil(0, block);
        }
        Check.gives("all but HEAD, MAP and INDEX", 1, () -> x.restore(0));
        Check.gives("NODE 0 is none, and something is RESTORED", 0, () -> x.node(true, 0, 0));
        Scenes.counts(x, 5, 1, 3, 3);
    }

    private static void promise11TwoCanNotBeRead() {
        TapeVault x = fourDumps();
        x.spoil(0, 1);
        Check.gives("itself", 2, () -> x.restore(0));
        Check.gives("its BASE", 2, () -> x.restore(2));
        Check.gives("one that does not need it", 0, () -> x.restore(3));
        x.spoil(0, 8);
        Check.gives("something would be LOST, too", 2, () -> x.restore(0));
        TapeVault y = new TapeVault();
        for (int level = 0; level <= 9; level++) {
            y.dump(level);
        }
        y.spoil(0, 2);
        Check.gives("the BASE at the very end", 2, () -> y.restore(9));
    }

    private static void promise11NothingIsRestoredThen() {
        TapeVault x = fourDumps();
        x.spoil(0, 12);
        Check.gives("restore(1)", 2, () -> x.restore(1));
        for (int what = 0; what < 6; what++) {
            int asked = what;
            Check.fails("node() " + what, STATE, () -> x.node(true, 0, asked));
        }
        Check.fails("octet()", STATE, () -> x.octet(true, 2, 0));
        Check.fails("find()", STATE, () -> x.find(true, 0, 10));
        Check.gives("THE TREE is there", 2, () -> x.node(false, 0, 0));
    }

    private static void promise11WhatWasBeforeIsGone() {
        TapeVault x = fourDumps();
        x.spoil(0, 12);
        restored(x, 0, 0);
        octet(x, 0, 7);
        restored(x, 1, 2);
        Check.fails("node()", STATE, () -> x.node(true, 2, 0));
        Check.fails("octet()", STATE, () -> x.octet(true, 2, 0));
        Check.fails("find()", STATE, () -> x.find(true, 1, 20));
        Scenes.counts(x, 5, 2, 0, 0);
        restored(x, 0, 0);
        octet(x, 0, 7);
    }

    private static void promise11WhereItThrowsItStays() {
        TapeVault x = fourDumps();
        x.spoil(0, 10);
        restored(x, 0, 1);
        Check.fails("restore(4)", BOUNDS, () -> x.restore(4));
        Check.fails("restore(-1)", BOUNDS, () -> x.restore(-1));
        Scenes.facts(x, true, 2, 1, 1, 20, 72, 11, 1);
        octet(x, 63, 7);
        octet(x, 64, 0);
        Check.gives("find()", 2, () -> x.find(true, 1, 20));
        Scenes.counts(x, 5, 1, 1, 9);
        x.spoil(0, 1);
        restored(x, 0, 2);
        Check.fails("restore(4)", BOUNDS, () -> x.restore(4));
        Check.fails("nothing was RESTORED, that stays", STATE, () -> x.node(true, 0, 0));
        Scenes.counts(x, 5, 1, 0, 0);
    }

    private static void promise11RestoredStaysAsItWas() {
        TapeVault x = Scenes.small();
        restored(x, 0, 0);
        x.write(2, 0, 0L);
        x.move(2, 0, 30);
        x.remove(1);
        x.dump(0);
        for (int block = 0; block <= 10; block++) {
            x.spoil(0, block);
        }
        Scenes.facts(x, true, 2, 1, 1, 20, 72, 11, 0);
        Scenes.facts(x, true, 1, 2, 0, 10, 1, 2, 0);
        octet(x, 0, 7);
        octet(x, 71, 7);
        Check.gives("its entry", 2, () -> x.find(true, 1, 20));
        Scenes.counts(x, 5, 1, 0, 10);
        Scenes.facts(x, false, 2, 1, 0, 30, 72, 13, 0);
    }

    private static void promise11ThereIsNone() {
        TapeVault none = new TapeVault();
        Check.fails("there are none at all", BOUNDS, () -> none.restore(0));
        TapeVault x = fourDumps();
        for (int dump : new int[] {-1, 4, 99, 100, 256, 65536, Scenes.LOWEST, Scenes.HIGHEST}) {
            Check.fails("restore(" + dump + ")", BOUNDS, () -> x.restore(dump));
        }
        Check.gives("the last one", 0, () -> x.restore(3));
        x.begin(64);
        Check.fails("behind begin()", BOUNDS, () -> x.restore(0));
    }
}
