import java.util.Arrays;

/** What the tests of codecs share: bits as texts, blocks that a commit packs, and blocks laid by damage. */
final class Blocks {
    private Blocks() {
    }

    /** The bytes that a text of bits fills, blanks left out. */
    static int[] bytes(String text) {
        String bits = text.replace(" ", "");
        int[] out = new int[(bits.length() + 7) / 8];
        for (int i = 0; i < bits.length(); i++) {
            out[i / 8] |= (bits.charAt(i) - '0') << 7 - i % 8;
        }
        return out;
    }

    static int[] join(int[] one, int... two) {
        int[] both = Arrays.copyOf(one, one.length + two.length);
        System.arraycopy(two, 0, both, one.length, two.length);
        return both;
    }

    static int[] block(int codec, int count, String bits) {
        int[] coded = bytes(bits);
        return join(Rig.row(codec, count, coded.length), coded);
    }

    static int sectorsFor(int[] bytes) {
        return (bytes.length + 10) / 11;
    }

    static Rig sectors(Rig r, int first, int[] bytes) {
        for (int i = 0; i < sectorsFor(bytes); i++) {
            r.sector(first + i, Arrays.copyOfRange(bytes, 11 * i, 11 * i + 11));
        }
        return r;
    }

    /** Commits one file of these bytes and looks at its block, which is to be the codec's and these bits. */
    static void packs(String name, int codec, int[] raw, String bits) {
        Rig r = new Rig(name);
        int[] block = block(codec, raw.length, bits);
        int sectors = sectorsFor(block);
        r.put(0, 1, raw).commit(2 * sectors + 4).file(0, 4, 2).file(0, 5, sectors);
        sectors(r, 2, block).holds(0, 1, raw);
    }

    /** An archive of one file of name 3, laid by damage, whose block is what is told. */
    static Rig laid(String name, int sectors, int begin, int size, int... block) {
        Rig r = new Rig(name);
        r.lay(1, 83, 65, 1, 2, 1).lay(2, 1, 3, 1, 4, sectors, begin, size, 1);
        for (int i = 0; 11 * i < block.length; i++) {
            r.lay(4 + i, Arrays.copyOfRange(block, 11 * i, 11 * i + 11));
        }
        return r.open(1);
    }

    static void reads(String name, int codec, int count, String bits, int... raw) {
        int[] block = block(codec, count, bits);
        laid(name, sectorsFor(block), 0, count, block).holds(3, 1, raw);
    }

    static void fails(String name, int codec, int count, String bits) {
        int[] block = block(codec, count, bits);
        laid(name, sectorsFor(block), 0, 0, block).extract(3, 1, -2).extracted(0, -1);
    }
}
