/** Vaults that several tests begin with, and what they ask of them again and again. */
final class Scenes {
    static final int LOWEST = Integer.MIN_VALUE;
    static final int HIGHEST = Integer.MAX_VALUE;
    /** The last two are 0 if they are taken modulo 256. */
    static final int[] NO_NODES = {-1, 256, LOWEST, HIGHEST, -256, 65536};
    static final int[] NO_NAMES = {0, -1, 30001, LOWEST, HIGHEST, 65537};

    private Scenes() {
    }

    /**
     * 1 a DIRECTORY (NAME 10) with the FILE 2 (NAME 20) of 72 octets in it, all 7, at TIME 11. The DUMP
     * of level 0 is HEAD 1, MAP 2, INDEX 3, FACTS of 0 at 4, entries 5, of 1 at 6, entries 7, of 2 at 8,
     * octets 9, 10.
     */
    static TapeVault small() {
        TapeVault x = new TapeVault();
        x.make(0, 10, true);
        x.make(1, 20, false);
        for (int at = 0; at < 72; at += 8) {
            x.write(2, at, 0x0707070707070707L);
        }
        x.dump(0);
        return x;
    }

    /** 1 and 2 in 0, 3 in 1, 4 in 3 (DIRECTORIES all), and the FILE 5 in 0; NAMES are the numbers; TIME 5. */
    static TapeVault deep() {
        TapeVault x = new TapeVault();
        x.make(0, 1, true);
        x.make(0, 2, true);
        x.make(1, 3, true);
        x.make(3, 4, true);
        x.make(0, 5, false);
        return x;
    }

    /** FILES with the NAMES 1, 2 .. in 0; they are as many. */
    static TapeVault wide(int volume, int files) {
        TapeVault x = new TapeVault();
        x.begin(volume);
        for (int n = 1; n <= files; n++) {
            x.make(0, n, false);
        }
        return x;
    }

    /** 0 with 255 FILES in it: a DUMP of all takes 280 BLOCKS, LABELS not counted. */
    static TapeVault full(int volume) {
        return wide(volume, 255);
    }

    /** NODE 1 is a FILE whose octet k is k % 251 + 1. */
    static TapeVault file(int size) {
        TapeVault x = new TapeVault();
        x.make(0, 1, false);
        for (int at = 0; at < size; at += 8) {
            long v = 0;
            for (int k = at; k < at + 8; k++) {
                v = v << 8 | k % 251 + 1;
            }
            x.write(1, at, v);
        }
        x.cut(1, size);
        return x;
    }

    static void dumps(TapeVault x, int level, int times) {
        for (int i = 0; i < times; i++) {
            x.dump(level);
        }
    }

    static void cuts(TapeVault x, int node, int times) {
        for (int i = 0; i < times; i++) {
            x.cut(node, 0);
        }
    }

    /** What node() tells from 0 on: kind, PARENT, NAME, octets or entries, STAMP, LOST. */
    static void facts(TapeVault x, boolean restored, int node, int... want) {
        for (int what = 0; what < want.length; what++) {
            int asked = what;
            Check.gives("node(" + restored + ", " + node + ", " + what + ")", want[what],
                    () -> x.node(restored, node, asked));
        }
    }

    /** What count() tells from the first one on. */
    static void counts(TapeVault x, int first, int... want) {
        for (int i = 0; i < want.length; i++) {
            int what = first + i;
            Check.gives("count(" + what + ")", want[i], () -> x.count(what));
        }
    }

    /** The first octets of a BLOCK, and noughts behind them. */
    static void block(TapeVault x, int volume, int block, int... octets) {
        StringBuilder got = new StringBuilder();
        StringBuilder want = new StringBuilder();
        for (int word = 0; word < 8; word++) {
            long eight = x.tape(volume, block, word);
            for (int k = 8 * word; k < 8 * word + 8; k++) {
                got.append(' ').append(eight >>> (56 - 8 * (k % 8)) & 255);
                want.append(' ').append(k < octets.length ? octets[k] : 0);
            }
        }
        Check.same("BLOCK " + block + " of VOLUME " + volume, got.toString(), want.toString());
    }

    /** Some octet of a BLOCK. */
    static int octet(TapeVault x, int volume, int block, int k) {
        return (int) (x.tape(volume, block, k / 8) >>> (56 - 8 * (k % 8)) & 255);
    }

    /** All that a small vault tells, by some 360 calls: with what made it, fewer than 512. */
    static String all(TapeVault x) {
        StringBuilder told = new StringBuilder();
        for (int what = 0; what < 8; what++) {
            int asked = what;
            told.append(" count ").append(what).append(' ').append(Check.told(() -> x.count(asked)));
        }
        view(told, x, false);
        view(told, x, true);
        for (int place = 0; place < 96; place++) {
            int volume = place / 48;
            int block = place % 48;
            told.append(" tape ").append(volume).append(' ').append(block).append(' ');
            told.append(Check.told(() -> x.tape(volume, block, 0))).append(' ');
            told.append(Check.told(() -> x.tape(volume, block, 1)));
        }
        return told.toString();
    }

    private static void view(StringBuilder told, TapeVault x, boolean restored) {
        for (int n = 0; n < 8; n++) {
            int node = n;
            told.append(restored ? " restored " : " tree ").append(n);
            for (int what = 0; what < 6; what++) {
                int asked = what;
                told.append(' ').append(Check.told(() -> x.node(restored, node, asked)));
            }
            told.append(" octet ").append(Check.told(() -> x.octet(restored, node, 0)));
            told.append(' ').append(Check.told(() -> x.octet(restored, node, 71)));
            told.append(" find ").append(Check.told(() -> x.find(restored, node, 10)));
            told.append(' ').append(Check.told(() -> x.find(restored, node, 20)));
        }
    }
}
