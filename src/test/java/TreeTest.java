/** Promises 1 to 7: a new object, begin, and all that changes THE TREE. */
public final class TreeTest {
    private static final Class<IllegalArgumentException> ARGUMENT = IllegalArgumentException.class;
    private static final Class<IllegalStateException> STATE = IllegalStateException.class;
    private static final Class<IndexOutOfBoundsException> BOUNDS = IndexOutOfBoundsException.class;
    private static final Class<UnsupportedOperationException> UNSUPPORTED = UnsupportedOperationException.class;

    public static void main(String[] args) {
        promise1NewObject();
        promise2Begin();
        promise2BeginForgetsAll();
        promise3Make();
        promise3MakeOrderOfExceptions();
        promise3MakeWhenFull();
        promise4Write();
        promise4WriteWrong();
        promise5Cut();
        promise6Move();
        promise6MoveWrong();
        promise7Remove();
        stamps();
        Check.end();
    }

    private static void facts(TapeVault x, int node, int kind, int parent, int name, int size, int stamp) {
        Scenes.facts(x, false, node, kind, parent, name, size, stamp, 0);
    }

    private static void asNew(TapeVault x) {
        facts(x, 0, 2, 0, 0, 0, 0);
        for (int n = 1; n < 256; n++) {
            facts(x, n, 0, 0, 0, 0, 0);
        }
        for (int what = 0; what < 8; what++) {
            int asked = what;
            Check.gives("new: count(" + what + ")", what == 1 ? 1 : 0, () -> x.count(asked));
        }
        Check.fails("new: nothing is written", BOUNDS, () -> x.tape(0, 0, 0));
        Check.fails("new: no DUMP", BOUNDS, () -> x.restore(0));
        Check.fails("new: nothing is RESTORED", STATE, () -> x.node(true, 0, 0));
        Check.gives("new: NODE 0 is no entry of itself", -1, () -> x.find(false, 0, 0));
    }

    private static void promise1NewObject() {
        TapeVault x = new TapeVault();
        asNew(x);
        for (int i = 0; i < 16; i++) {
            x.dump(0);
        }
        // 16 DUMPS of 4 BLOCKS: 63 fit behind the first LABEL, if VOLUMES have 64
        Check.gives("new: BLOCKS", 66, () -> x.count(4));
        Check.gives("new: VOLUME 1's LABEL", 0x4C00010000000000L, () -> x.tape(1, 0, 0));
        Check.gives("new: the last BLOCK of VOLUME 0", 0x4901000100000000L, () -> x.tape(0, 63, 0));
    }

    private static void promise2Begin() {
        TapeVault x = new TapeVault();
        for (int blocks : new int[] {3, 1001, 0, -1, Integer.MIN_VALUE, Integer.MAX_VALUE}) {
            Check.fails("begin(" + blocks + ")", ARGUMENT, () -> x.begin(blocks));
        }
        Check.done("begin(4)", () -> x.begin(4));
        x.dump(0);
        Check.gives("begin(4): VOLUMES", 2, () -> x.count(3));
        Check.gives("begin(4): LABEL of 1", 0x4C00010000000000L, () -> x.tape(1, 0, 0));
        Check.gives("begin(4): FACTS", 0x4E00020000000000L, () -> x.tape(1, 1, 0));
        Check.done("begin(1000)", () -> x.begin(1000));
        x.dump(0);
        Check.gives("begin(1000): VOLUMES", 1, () -> x.count(3));
    }

    private static void promise2BeginForgetsAll() {
        TapeVault x = new TapeVault();
        x.make(0, 9, true);
        x.make(1, 9, false);
        x.write(2, 0, -1L);
        x.dump(3);
        x.spoil(0, 4);
        x.restore(0);
        Check.fails("begin(2) changes nothing", ARGUMENT, () -> x.begin(2));
        Check.gives("after begin(2): TIME", 3, () -> x.count(0));
        Check.gives("after begin(2): RESTORED", 1, () -> x.node(true, 2, 0));
        x.begin(64);
        asNew(x);
        x.dump(1);
        Check.gives("begin: no BLOCK is SPOILED, none has what was there", 0x4E00020000000000L, () -> x.tape(0, 4, 0));
        Check.gives("begin: no BASE", 1, () -> x.tape(0, 1, 1) >>> 32);
    }

    private static void promise3Make() {
        TapeVault x = new TapeVault();
        Check.gives("make(0, 30000, true)", 1, () -> x.make(0, 30000, true));
        Check.gives("make(1, 1, false)", 2, () -> x.make(1, 1, false));
        facts(x, 0, 2, 0, 0, 1, 1);
        facts(x, 1, 2, 0, 30000, 1, 2);
        facts(x, 2, 1, 1, 1, 0, 2);
        Check.gives("a NAME may be in two DIRECTORIES", 3, () -> x.make(0, 1, false));
        x.remove(2);
        Check.gives("the least number that is none", 2, () -> x.make(1, 7, true));
        Check.gives("and then the next", 4, () -> x.make(2, 7, true));
        facts(x, 2, 2, 1, 7, 1, 6);
        Check.gives("NODES", 5, () -> x.count(1));
    }

    private static void promise3MakeOrderOfExceptions() {
        TapeVault x = new TapeVault();
        x.make(0, 5, false);
        Check.fails("make in none", ARGUMENT, () -> x.make(7, 5, false));
        Check.fails("make in a FILE", ARGUMENT, () -> x.make(1, 5, false));
        for (int parent : new int[] {-1, 256, Integer.MIN_VALUE, Integer.MAX_VALUE}) {
            Check.fails("make in " + parent, ARGUMENT, () -> x.make(parent, 6, true));
        }
        for (int name : new int[] {0, -1, 30001, Integer.MIN_VALUE, Integer.MAX_VALUE}) {
            Check.fails("make of NAME " + name, ARGUMENT, () -> x.make(0, name, true));
        }
        Check.fails("make of a NAME that is there", STATE, () -> x.make(0, 5, true));
        Check.gives("TIME counts what is done alone", 1, () -> x.count(0));
        Check.gives("NODES", 2, () -> x.count(1));
    }

    private static void promise3MakeWhenFull() {
        TapeVault x = new TapeVault();
        for (int n = 1; n < 256; n++) {
            int due = n;
            Check.gives("make " + n, due, () -> x.make(0, 1000 - due, false));
        }
        Check.fails("there are 256", BOUNDS, () -> x.make(0, 5, false));
        Check.fails("a NAME that is there comes first", STATE, () -> x.make(0, 999, false));
        Check.fails("a wrong NAME comes first", ARGUMENT, () -> x.make(0, 0, false));
        Check.gives("NODES", 256, () -> x.count(1));
        Check.gives("TIME", 255, () -> x.count(0));
        x.remove(200);
        Check.gives("there is one again", 200, () -> x.make(0, 5, false));
    }

    private static void promise4Write() {
        TapeVault x = new TapeVault();
        x.make(0, 1, false);
        Check.gives("write at 0", 8, () -> x.write(1, 0, 0x0102030405060708L));
        Check.gives("write over it", 11, () -> x.write(1, 3, 0xF1F2F3F4F5F6F7F8L));
        int[] want = {1, 2, 3, 0xF1, 0xF2, 0xF3, 0xF4, 0xF5, 0xF6, 0xF7, 0xF8};
        for (int k = 0; k < want.length; k++) {
            int at = k;
            Check.gives("octet " + k, want[k], () -> x.octet(false, 1, at));
        }
        Check.gives("write within", 11, () -> x.write(1, 1, 0L));
        Check.gives("octet 8 is 0", 0, () -> x.octet(false, 1, 8));
        Check.gives("octet 9 stays", 0xF7, () -> x.octet(false, 1, 9));
        facts(x, 1, 1, 0, 1, 11, 4);
        facts(x, 0, 2, 0, 0, 1, 1);
        for (int at = 11; at < 504; at += 8) {
            x.write(1, at, at);
        }
        Check.gives("write at 504", 512, () -> x.write(1, 504, -1L));
        Check.fails("write at 505", BOUNDS, () -> x.write(1, 505, 0L));
        Check.gives("octet 511", 255, () -> x.octet(false, 1, 511));
    }

    private static void promise4WriteWrong() {
        TapeVault x = new TapeVault();
        x.make(0, 1, false);
        x.make(0, 2, true);
        x.write(1, 0, 1L);
        Check.fails("write in a DIRECTORY", ARGUMENT, () -> x.write(2, 0, 1L));
        for (int node : new int[] {0, 3, -1, 256, Integer.MIN_VALUE, Integer.MAX_VALUE}) {
            Check.fails("write in " + node, ARGUMENT, () -> x.write(node, -1, 1L));
        }
        for (int at : new int[] {-1, 9, 505, Integer.MIN_VALUE, Integer.MAX_VALUE}) {
            Check.fails("write at " + at, BOUNDS, () -> x.write(1, at, 1L));
        }
        facts(x, 1, 1, 0, 1, 8, 3);
        Check.gives("write at its end", 16, () -> x.write(1, 8, 1L));
    }

    private static void promise5Cut() {
        TapeVault x = new TapeVault();
        x.make(0, 1, false);
        x.make(0, 2, true);
        x.write(1, 0, -1L);
        Check.done("cut to 3", () -> x.cut(1, 3));
        facts(x, 1, 1, 0, 1, 3, 4);
        Check.gives("octet 2", 255, () -> x.octet(false, 1, 2));
        Check.fails("octet 3", BOUNDS, () -> x.octet(false, 1, 3));
        Check.fails("cut to 4", BOUNDS, () -> x.cut(1, 4));
        Check.fails("cut to -1", BOUNDS, () -> x.cut(1, -1));
        Check.fails("write behind it", BOUNDS, () -> x.write(1, 4, 0L));
        Check.done("cut to what it has", () -> x.cut(1, 3));
        facts(x, 1, 1, 0, 1, 3, 5);
        Check.done("cut to 0", () -> x.cut(1, 0));
        facts(x, 1, 1, 0, 1, 0, 6);
        facts(x, 0, 2, 0, 0, 2, 2);
        for (int node : new int[] {0, 2, 3, -1, 256, Integer.MIN_VALUE, Integer.MAX_VALUE}) {
            Check.fails("cut of " + node, ARGUMENT, () -> x.cut(node, -1));
        }
        Check.gives("TIME", 6, () -> x.count(0));
    }

    private static void promise6Move() {
        TapeVault x = Scenes.deep();
        Check.done("move 3 from 1 to 2", () -> x.move(3, 2, 77));
        facts(x, 3, 2, 2, 77, 1, 6);
        facts(x, 1, 2, 0, 1, 0, 6);
        facts(x, 2, 2, 0, 2, 1, 6);
        facts(x, 4, 2, 3, 4, 0, 4);
        facts(x, 0, 2, 0, 0, 3, 5);
        Check.gives("it is found there", 3, () -> x.find(false, 2, 77));
        Check.gives("it is not where it was", -1, () -> x.find(false, 1, 3));
        Check.done("move within", () -> x.move(5, 0, 30000));
        facts(x, 5, 1, 0, 30000, 0, 7);
        facts(x, 0, 2, 0, 0, 3, 7);
        Check.gives("the old NAME is gone", -1, () -> x.find(false, 0, 5));
        Check.done("move to where it is", () -> x.move(5, 0, 30000));
        facts(x, 5, 1, 0, 30000, 0, 8);
        facts(x, 0, 2, 0, 0, 3, 8);
        Check.gives("it is still there", 5, () -> x.find(false, 0, 30000));
        Check.gives("so are the others", 2, () -> x.find(false, 0, 2));
        Check.gives("NODES", 6, () -> x.count(1));
    }

    private static void promise6MoveWrong() {
        TapeVault x = Scenes.deep();
        for (int node : new int[] {0, 6, -1, 256, Integer.MIN_VALUE, Integer.MAX_VALUE}) {
            Check.fails("move of " + node, ARGUMENT, () -> x.move(node, 0, 9));
            if (node != 0) {
                Check.fails("move to " + node, ARGUMENT, () -> x.move(5, node, 9));
            }
        }
        for (int name : new int[] {0, -1, 30001, Integer.MIN_VALUE, Integer.MAX_VALUE}) {
            Check.fails("move to NAME " + name, ARGUMENT, () -> x.move(5, 0, name));
            Check.fails("move into itself, NAME " + name, ARGUMENT, () -> x.move(1, 1, name));
        }
        Check.fails("move into a FILE", ARGUMENT, () -> x.move(1, 5, 9));
        Check.fails("move of a FILE into itself", ARGUMENT, () -> x.move(5, 5, 9));
        Check.fails("another one has that NAME", STATE, () -> x.move(5, 0, 2));
        Check.fails("into itself", UNSUPPORTED, () -> x.move(1, 1, 9));
        Check.fails("into one below it", UNSUPPORTED, () -> x.move(1, 3, 9));
        Check.fails("into one far below it", UNSUPPORTED, () -> x.move(1, 4, 9));
        Check.fails("a NAME that is there comes first: itself", STATE, () -> x.move(1, 1, 3));
        Check.fails("a NAME that is there comes first: below", STATE, () -> x.move(1, 3, 4));
        Check.gives("TIME", 5, () -> x.count(0));
        Check.done("up is fine", () -> x.move(4, 0, 4));
        Check.done("and now 1 may go there", () -> x.move(1, 4, 9));
        Check.fails("but 4 may not go into 3", UNSUPPORTED, () -> x.move(4, 3, 1));
    }

    private static void promise7Remove() {
        TapeVault x = Scenes.deep();
        x.write(5, 0, -1L);
        for (int node : new int[] {0, 6, -1, 256, Integer.MIN_VALUE, Integer.MAX_VALUE}) {
            Check.fails("remove of " + node, ARGUMENT, () -> x.remove(node));
        }
        Check.fails("a DIRECTORY with something in it", STATE, () -> x.remove(1));
        Check.gives("TIME", 6, () -> x.count(0));
        Check.done("a FILE with octets", () -> x.remove(5));
        facts(x, 5, 0, 0, 0, 0, 0);
        facts(x, 0, 2, 0, 0, 2, 7);
        Check.gives("its NAME is free", -1, () -> x.find(false, 0, 5));
        Check.fails("it is none", ARGUMENT, () -> x.remove(5));
        Check.done("an empty DIRECTORY", () -> x.remove(4));
        facts(x, 3, 2, 1, 3, 0, 8);
        Check.done("the one that held it", () -> x.remove(3));
        facts(x, 1, 2, 0, 1, 0, 9);
        Check.gives("NODES", 3, () -> x.count(1));
        Check.gives("made anew it has nothing", 3, () -> x.make(0, 3, false));
        facts(x, 3, 1, 0, 3, 0, 10);
    }

    private static void stamps() {
        TapeVault x = Scenes.deep();
        x.dump(0);
        x.restore(0);
        Check.gives("dump() and restore() do not change TIME", 5, () -> x.count(0));
        x.remove(2);
        facts(x, 1, 2, 0, 1, 1, 3);
        facts(x, 0, 2, 0, 0, 2, 6);
    }
}
