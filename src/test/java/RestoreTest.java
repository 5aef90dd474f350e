/** Promises 11 to 15: restore, and what node, octet, find and count tell. */
public final class RestoreTest {
    private static final Class<IllegalArgumentException> ARGUMENT = IllegalArgumentException.class;
    private static final Class<IllegalStateException> STATE = IllegalStateException.class;
    private static final Class<IndexOutOfBoundsException> BOUNDS = IndexOutOfBoundsException.class;

    public static void main(String[] args) {
        promise11Whole();
        promise11Chain();
        promise11Unreadable();
        promise11SpoiledLabel();
        promise11SpoiledFacts();
        promise11SpoiledFactsKeepWhatWas();
        promise11SpoiledOctets();
        promise11SpoiledEntries();
        promise11LostByTheLatestAlone();
        promise11NotInTheMap();
        promise11SpoiledLater();
        promise11Wrong();
        promise12Node();
        promise13Octet();
        promise14Find();
        promise15Count();
        Check.end();
    }

    private static void facts(TapeVault x, int node, int... want) {
        Scenes.facts(x, true, node, want);
    }

    private static void counts(String what, TapeVault x, int chain, int lost, int read) {
        Check.gives(what + ": DUMPS of the CHAIN", chain, () -> x.count(5));
        Check.gives(what + ": LOST", lost, () -> x.count(6));
        Check.gives(what + ": BLOCKS read", read, () -> x.count(7));
    }

    private static void promise11Whole() {
        TapeVault x = Scenes.small();
        x.write(2, 0, 0L);
        x.remove(2);
        x.remove(1);
        Check.gives("restore(0)", 0, () -> x.restore(0));
        facts(x, 0, 2, 0, 0, 1, 1, 0);
        facts(x, 1, 2, 0, 10, 1, 2, 0);
        facts(x, 2, 1, 1, 20, 72, 11, 0);
        facts(x, 3, 0, 0, 0, 0, 0, 0);
        for (int k = 0; k < 72; k++) {
            int at = k;
            Check.gives("octet " + k, 7, () -> x.octet(true, 2, at));
        }
        Check.gives("find", 2, () -> x.find(true, 1, 20));
        counts("restore(0)", x, 1, 0, 10);
        Check.gives("THE TREE is as it was", 0, () -> x.node(false, 1, 0));
        Check.gives("TIME too", 14, () -> x.count(0));
    }

    private static void promise11Chain() {
        TapeVault x = Scenes.small();
        x.make(0, 30, false);
        x.dump(5);
        x.write(3, 0, 1L);
        x.dump(7);
        x.remove(2);
        x.dump(6);
        Check.gives("restore(0)", 0, () -> x.restore(0));
        counts("restore(0)", x, 1, 0, 10);
        facts(x, 3, 0, 0, 0, 0, 0, 0);
        Check.gives("restore(2)", 0, () -> x.restore(2));
        // DUMP 1 has 0 and 3: 6 BLOCKS; DUMP 2 has 3 alone: 5
        counts("restore(2)", x, 3, 0, 21);
        facts(x, 0, 2, 0, 0, 2, 12, 0);
        facts(x, 2, 1, 1, 20, 72, 11, 0);
        facts(x, 3, 1, 0, 30, 8, 13, 0);
        Check.gives("restore(1)", 0, () -> x.restore(1));
        counts("restore(1)", x, 2, 0, 16);
        facts(x, 3, 1, 0, 30, 0, 12, 0);
        Check.gives("restore(3)", 0, () -> x.restore(3));
        // the BASE of DUMP 3 is DUMP 1; it has 1 and 3: HEAD, MAP, INDEX, FACTS of 1, FACTS and octets of 3
        counts("restore(3)", x, 3, 0, 22);
        facts(x, 1, 2, 0, 10, 0, 14, 0);
        facts(x, 2, 0, 0, 0, 0, 0, 0);
        facts(x, 3, 1, 0, 30, 8, 13, 0);
        Check.gives("it is not in its DIRECTORY", -1, () -> x.find(true, 1, 20));
    }

    private static void promise11Unreadable() {
        for (int block = 1; block <= 3; block++) {
            TapeVault x = Scenes.small();
            x.write(2, 0, 0L);
            x.dump(1);
            x.dump(0);
            x.restore(2);
            x.spoil(0, block);
            Check.gives("its own HEAD, MAP, INDEX: " + block, 2, () -> x.restore(0));
            counts("restore(0)", x, 1, 0, 0);
            Check.gives("another one", 0, () -> x.restore(2));
            Check.gives("the BASE's HEAD, MAP, INDEX: " + block, 2, () -> x.restore(1));
            counts("restore(1)", x, 2, 0, 0);
            Check.fails("what was RESTORED is gone", STATE, () -> x.node(true, 0, 0));
            Check.fails("octets too", STATE, () -> x.octet(true, 2, 0));
            Check.fails("entries too", STATE, () -> x.find(true, 0, 10));
        }
        unreadableSecondIndex();
        unreadableOutsideTheChain();
    }

    private static void unreadableSecondIndex() {
        TapeVault x = new TapeVault();
        for (int n = 1; n < 32; n++) {
            x.make(0, n, false);
        }
        x.dump(0);
        x.spoil(0, 4);
        Check.gives("the second INDEX", 2, () -> x.restore(0));
        TapeVault y = new TapeVault();
        for (int n = 1; n < 31; n++) {
            y.make(0, n, false);
        }
        y.dump(0);
        y.spoil(0, 4);
        Check.gives("FACTS behind the only INDEX", 1, () -> y.restore(0));
    }

    private static void unreadableOutsideTheChain() {
        TapeVault x = Scenes.small();
        int at = x.count(4);
        x.dump(5);
        x.dump(3);
        x.spoil(0, at);
        Check.gives("a DUMP that is not of the CHAIN", 0, () -> x.restore(2));
        Check.gives("the one itself", 2, () -> x.restore(1));
    }

    private static void promise11SpoiledLabel() {
        TapeVault x = Scenes.small();
        x.spoil(0, 0);
        Check.gives("a SPOILED LABEL does no harm", 0, () -> x.restore(0));
        counts("restore(0)", x, 1, 0, 10);
    }

    private static void promise11SpoiledFacts() {
        TapeVault x = Scenes.small();
        x.spoil(0, 8);
        Check.gives("FACTS of 2", 1, () -> x.restore(0));
        facts(x, 2, 0, 0, 0, 0, 0, 1);
        facts(x, 1, 2, 0, 10, 1, 2, 0);
        Check.gives("its entry is there", 2, () -> x.find(true, 1, 20));
        Check.fails("it is no FILE", ARGUMENT, () -> x.octet(true, 2, 0));
        counts("FACTS of 2", x, 1, 1, 9);
        x.spoil(0, 4);
        Check.gives("FACTS of 0 too", 1, () -> x.restore(0));
        facts(x, 0, 0, 0, 0, 0, 0, 1);
        Check.fails("0 is no DIRECTORY", ARGUMENT, () -> x.find(true, 0, 10));
        counts("FACTS of 0 and 2", x, 1, 2, 8);
    }

    private static void promise11SpoiledFactsKeepWhatWas() {
        TapeVault x = Scenes.small();
        int at = x.count(4);
        x.move(2, 0, 40);
        x.write(2, 72, 0L);
        x.dump(1);
        // FACTS and entries of 0 at 3 and 4, FACTS of 1 at 5, of 2 at 6, octets at 7 and 8
        x.spoil(0, at + 5);
        x.spoil(0, at + 6);
        x.spoil(0, at + 7);
        Check.gives("restore(1)", 1, () -> x.restore(1));
        facts(x, 2, 1, 1, 20, 72, 11, 1);
        facts(x, 1, 2, 0, 10, 1, 2, 1);
        facts(x, 0, 2, 0, 0, 2, 12, 0);
        Check.gives("1 has its old entry", 2, () -> x.find(true, 1, 20));
        Check.gives("and 0 the new one", 2, () -> x.find(true, 0, 40));
        Check.gives("2 has its old octets", 7, () -> x.octet(true, 2, 71));
        Check.fails("and no more", BOUNDS, () -> x.octet(true, 2, 72));
        counts("restore(1)", x, 2, 2, 10 + 9 - 3);
        x.spoil(0, 9);
        Check.gives("restore(1) again", 1, () -> x.restore(1));
        Check.gives("what was SPOILED before is 0", 0, () -> x.octet(true, 2, 63));
        Check.gives("the rest is not", 7, () -> x.octet(true, 2, 64));
        counts("restore(1) again", x, 2, 2, 10 + 9 - 4);
    }

    private static void promise11SpoiledOctets() {
        TapeVault x = Scenes.small();
        x.spoil(0, 10);
        Check.gives("the second BLOCK of octets", 1, () -> x.restore(0));
        facts(x, 2, 1, 1, 20, 72, 11, 1);
        Check.gives("octet 63", 7, () -> x.octet(true, 2, 63));
        Check.gives("octet 64", 0, () -> x.octet(true, 2, 64));
        Check.gives("octet 71", 0, () -> x.octet(true, 2, 71));
        Check.fails("octet 72", BOUNDS, () -> x.octet(true, 2, 72));
        counts("octets of 2", x, 1, 1, 9);
    }

    private static void promise11SpoiledEntries() {
        TapeVault x = new TapeVault();
        for (int n = 1; n <= 43; n++) {
            x.make(0, 2 * n, false);
        }
        x.dump(0);
        // HEAD, MAP, two of INDEX, FACTS of 0 at 5, entries at 6, 7, 8
        x.spoil(0, 7);
        Check.gives("restore(0)", 1, () -> x.restore(0));
        for (int n = 1; n <= 43; n++) {
            int name = 2 * n;
            Check.gives("entry " + n, n <= 21 || n == 43 ? n : -1, () -> x.find(true, 0, name));
            facts(x, n, 1, 0, name, 0, n, 0);
        }
        facts(x, 0, 2, 0, 0, 43, 43, 1);
        counts("entries of 0", x, 1, 1, 4 + 44 + 2);
    }

    private static void promise11LostByTheLatestAlone() {
        TapeVault x = Scenes.small();
        x.write(2, 0, -1L);
        int at = x.count(4);
        x.dump(1);
        x.spoil(0, 9);
        Check.gives("LOST in DUMP 0", 1, () -> x.restore(0));
        Check.gives("CHANGED again in DUMP 1", 0, () -> x.restore(1));
        facts(x, 2, 1, 1, 20, 72, 12, 0);
        Check.gives("octet 8", 7, () -> x.octet(true, 2, 8));
        x.spoil(0, 6);
        Check.gives("1 is LOST in DUMP 0, not CHANGED in DUMP 1", 1, () -> x.restore(1));
        facts(x, 1, 0, 0, 0, 0, 0, 1);
        facts(x, 2, 1, 1, 20, 72, 12, 0);
        x.spoil(0, at + 5);
        Check.gives("and LOST by DUMP 1", 1, () -> x.restore(1));
        facts(x, 2, 1, 1, 20, 72, 12, 1);
        Check.gives("octet 63", 7, () -> x.octet(true, 2, 63));
        Check.gives("octet 64", 0, () -> x.octet(true, 2, 64));
        counts("restore(1)", x, 2, 2, 8 + 5);
    }

    private static void promise11NotInTheMap() {
        TapeVault x = Scenes.small();
        x.remove(2);
        x.dump(1);
        x.make(1, 50, true);
        int at = x.count(4);
        x.dump(2);
        x.spoil(0, 8);
        Check.gives("2 is LOST in DUMP 0", 1, () -> x.restore(0));
        Check.gives("and not LOST any more", 0, () -> x.restore(1));
        facts(x, 2, 0, 0, 0, 0, 0, 0);
        // DUMP 2: FACTS of 1 at 3, entries at 4, FACTS of 2 at 5
        x.spoil(0, at + 5);
        Check.gives("made anew it is LOST", 1, () -> x.restore(2));
        facts(x, 2, 0, 0, 0, 0, 0, 1);
        Check.gives("its entry", 2, () -> x.find(true, 1, 50));
    }

    private static void promise11SpoiledLater() {
        TapeVault x = Scenes.small();
        Check.gives("restore(0)", 0, () -> x.restore(0));
        for (int block = 0; block <= 10; block++) {
            x.spoil(0, block);
        }
        facts(x, 2, 1, 1, 20, 72, 11, 0);
        Check.gives("octets stay", 7, () -> x.octet(true, 2, 3));
        Check.gives("entries stay", 1, () -> x.find(true, 0, 10));
        counts("it stays", x, 1, 0, 10);
        x.write(2, 0, 0L);
        x.dump(0);
        Check.gives("octets stay behind a DUMP", 7, () -> x.octet(true, 2, 3));
    }

    private static void promise11Wrong() {
        TapeVault x = Scenes.small();
        x.restore(0);
        for (int dump : new int[] {-1, 1, 100, Integer.MIN_VALUE, Integer.MAX_VALUE}) {
            Check.fails("restore(" + dump + ")", BOUNDS, () -> x.restore(dump));
        }
        facts(x, 2, 1, 1, 20, 72, 11, 0);
        counts("what was RESTORED stays", x, 1, 0, 10);
    }

    private static void promise12Node() {
        TapeVault x = Scenes.small();
        for (int what : new int[] {-1, 6, Integer.MIN_VALUE, Integer.MAX_VALUE}) {
            Check.fails("what " + what, ARGUMENT, () -> x.node(false, 0, what));
            Check.fails("what " + what + " comes first", ARGUMENT, () -> x.node(true, 256, what));
        }
        for (int node : new int[] {-1, 256, Integer.MIN_VALUE, Integer.MAX_VALUE}) {
            Check.fails("NODE " + node, BOUNDS, () -> x.node(false, node, 0));
            Check.fails("nothing is RESTORED comes first", STATE, () -> x.node(true, node, 5));
        }
        Check.fails("nothing is RESTORED", STATE, () -> x.node(true, 0, 0));
        x.restore(0);
        Check.fails("RESTORED, NODE 256", BOUNDS, () -> x.node(true, 256, 0));
        Check.fails("RESTORED, NODE -1", BOUNDS, () -> x.node(true, -1, 5));
        Check.gives("RESTORED, NODE 255", 0, () -> x.node(true, 255, 5));
        int[] want = {1, 1, 20, 72, 11, 0};
        for (int what = 0; what < 6; what++) {
            int asked = what;
            Check.gives("THE TREE: " + what, want[what], () -> x.node(false, 2, asked));
            Check.gives("THE TREE, none: " + what, 0, () -> x.node(false, 255, asked));
        }
    }

    private static void promise13Octet() {
        TapeVault x = Scenes.small();
        Check.fails("nothing is RESTORED", STATE, () -> x.octet(true, 2, 0));
        Check.fails("nothing is RESTORED comes first", STATE, () -> x.octet(true, -1, -1));
        x.restore(0);
        x.write(2, 0, 0xFE00000000000000L);
        Check.gives("octet 0 of THE TREE", 254, () -> x.octet(false, 2, 0));
        Check.gives("octet 0 of what was RESTORED", 7, () -> x.octet(true, 2, 0));
        for (boolean restored : new boolean[] {false, true}) {
            for (int node : new int[] {0, 1, 3, -1, 255, 256, Integer.MIN_VALUE, Integer.MAX_VALUE}) {
                Check.fails("octet of " + node, ARGUMENT, () -> x.octet(restored, node, 0));
                Check.fails("octet of " + node + " comes first", ARGUMENT, () -> x.octet(restored, node, -1));
            }
            for (int k : new int[] {-1, 72, Integer.MIN_VALUE, Integer.MAX_VALUE}) {
                Check.fails("octet " + k, BOUNDS, () -> x.octet(restored, 2, k));
            }
            Check.gives("the last octet", 7, () -> x.octet(restored, 2, 71));
        }
    }

    private static void promise14Find() {
        TapeVault x = Scenes.small();
        Check.fails("nothing is RESTORED", STATE, () -> x.find(true, 0, 10));
        Check.fails("nothing is RESTORED comes first", STATE, () -> x.find(true, -1, 10));
        x.restore(0);
        x.move(2, 0, 30000);
        Check.gives("where it was", 2, () -> x.find(true, 1, 20));
        Check.gives("where it was not", -1, () -> x.find(true, 0, 30000));
        Check.gives("where it is", 2, () -> x.find(false, 0, 30000));
        Check.gives("where it is not", -1, () -> x.find(false, 1, 20));
        for (boolean restored : new boolean[] {false, true}) {
            for (int directory : new int[] {2, 3, -1, 255, 256, Integer.MIN_VALUE, Integer.MAX_VALUE}) {
                Check.fails("find in " + directory, ARGUMENT, () -> x.find(restored, directory, 10));
            }
            for (int name : new int[] {0, -1, 11, 30001, 65536 + 10, Integer.MIN_VALUE, Integer.MAX_VALUE}) {
                Check.gives("find of " + name, -1, () -> x.find(restored, 0, name));
            }
            Check.gives("find of 1", 1, () -> x.find(restored, 0, 10));
        }
    }

    private static void promise15Count() {
        TapeVault x = Scenes.small();
        for (int what : new int[] {-1, 8, Integer.MIN_VALUE, Integer.MAX_VALUE}) {
            Check.fails("count(" + what + ")", ARGUMENT, () -> x.count(what));
        }
        int[] want = {11, 3, 1, 1, 11, 0, 0, 0};
        for (int what = 0; what < 8; what++) {
            int asked = what;
            Check.gives("count(" + what + ")", want[what], () -> x.count(asked));
        }
        x.dump(3);
        x.spoil(0, 9);
        x.restore(1);
        counts("restore(1)", x, 2, 1, 11);
        x.spoil(0, 12);
        x.restore(1);
        counts("it could not be", x, 2, 0, 0);
        x.begin(4);
        counts("behind begin()", x, 0, 0, 0);
    }
}
