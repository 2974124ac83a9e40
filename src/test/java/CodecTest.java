import java.util.Arrays;

/** Promises 6 to 8: how blocks are packed, and how they are taken again, whatever they hold. */
final class CodecTest {
    public static void main(String[] args) {
        packsStored();
        packsMatches();
        packsDifferences();
        packsPrefix();
        packsPrefixTrees();
        tiesGoToTheLeastCodec();
        packsNothing();
        decodesStored();
        decodesMatches();
        decodesDifferences();
        decodesPrefix();
        decodesPrefixOfOddLengths();
        blockAndSectors();
        Rig.finish();
    }

    private static void packsStored() {
        Blocks.packs("stored", 0, Rig.row(7, 250, 3), "00000111 11111010 00000011");
        Blocks.packs("eleven bytes in one sector", 0, Rig.row(1, 50, 7, 200, 9, 90, 33, 128),
                "00000001 00110010 00000111 11001000 00001001 01011010 00100001 10000000");
        Blocks.packs("twelve bytes in two sectors", 0, Rig.row(1, 50, 7, 200, 9, 90, 33, 128, 77),
                "00000001 00110010 00000111 11001000 00001001 01011010 00100001 10000000 01001101");
        int[] raw = {3, 99, 14, 201, 77, 160, 8, 255, 31, 120, 66, 180};
        Blocks.packs("stored over two sectors", 0, raw,
                "00000011 01100011 00001110 11001001 01001101 10100000 00001000 11111111 00011111 01111000 01000010 10110100");
    }

    private static void packsMatches() {
        // One byte, then rows of 9 and 4 from one place back, which reach beyond the place itself.
        Blocks.packs("a row of one byte", 1, Rig.row(5, 5, 5, 5, 5, 5, 5, 5, 5, 5, 5, 5, 5, 5), "0 00000101  1 0000 111  1 0000 010");
        // 1 2 3 stands nine and four back: of the longest the least distance.
        Blocks.packs("the least distance", 1, Rig.row(1, 2, 3, 90, 17, 1, 2, 3, 60, 1, 2, 3, 1, 2, 3, 1, 2, 3),
                "0 00000001 0 00000010 0 00000011 0 01011010 0 00010001  1 0100 001  0 00111100  1 0011 001  1 0010 100");
        // Two bytes sixteen back are a match.
        Blocks.packs("sixteen back", 1, Rig.row(1, 2, 30, 30, 30, 30, 30, 30, 30, 30, 30, 30, 30, 30, 30, 30, 1, 2),
                "0 00000001 0 00000010 0 00011110 1 0000 111 1 0000 010 1 1111 000");
        // Seventeen back is too far.
        Blocks.packs("seventeen back", 1, Rig.row(1, 2, 30, 30, 30, 30, 30, 30, 30, 30, 30, 30, 30, 30, 30, 30, 30, 1, 2),
                "0 00000001 0 00000010 0 00011110 1 0000 111 1 0000 011 0 00000001 0 00000010");
    }

    private static void packsDifferences() {
        Blocks.packs("a ramp", 2, Rig.row(250, 253, 0, 3, 6, 9, 12, 15), "0 11111010 0 00000011 1 0000 100");
        Blocks.packs("a ramp down", 2, Rig.row(2, 1, 0, 255, 254, 253), "0 00000010 0 11111111 1 0000 010");
    }

    private static void packsPrefix() {
        // Two bytes: codes 0 and 1.
        Blocks.packs("two bytes", 3, Rig.row(9, 9, 9, 8, 9, 8, 8, 8, 9, 9, 8, 8, 9, 8, 9, 9, 8, 9, 9, 9, 9, 8, 8, 9),
                "0000010  00001000 0001  00001001 0001  111010001100101101111001");
        // Weights 12, 6, 3, 3 of 7, 5, 1, 200: lengths 1, 2, 3, 3.
        int[] raw = {7, 5, 7, 1, 7, 7, 200, 5, 7, 7, 5, 1, 7, 200, 7, 5, 5, 7, 7, 1, 7, 200, 5, 7};
        Blocks.packs("four bytes", 3, raw,
                "0000100  00000001 0011  00000101 0010  00000111 0001  11001000 0011 "
                        + " 0 10 0 110 0 0 111 10 0 0 10 110 0 111 0 10 10 0 0 110 0 111 10 0");
    }

    /** Two commits of two files of 24 bytes each, so that nothing of the first block is left in the second. */
    private static void packsPrefixTrees() {
        Rig r = new Rig("trees");
        // Weights 8, 8, 16, 16: 10 and 20 weigh 16 together and come first by their least byte, so 30 joins them.
        int[] one = {
            40, 30, 20, 40, 40, 20, 30, 20, 40, 30, 40, 40, 10, 40, 10, 40, 30, 40, 10, 40, 40, 10, 30, 30,
            40, 40, 40, 20, 30, 10, 30, 40, 30, 10, 20, 20, 40, 30, 30, 10, 20, 30, 30, 30, 20, 30, 10, 30};
        twoFiles(r, 2, one, "0000100 00001010 0011 00010100 0011 00011110 0010 00101000 0001", "110", "111", "10", "0");
        // Weights 10, 10, 12, 16: 11 and 21 weigh 20 together, so 31 and 41 are joined before.
        int[] two = {
            21, 21, 21, 31, 41, 11, 31, 31, 31, 41, 31, 11, 11, 31, 41, 41, 41, 41, 31, 41, 31, 21, 31, 11,
            41, 21, 21, 11, 41, 21, 21, 11, 21, 31, 41, 21, 11, 41, 41, 11, 41, 11, 41, 31, 41, 41, 11, 31};
        twoFiles(r, 6, two, "0000100 00001011 0010 00010101 0010 00011111 0010 00101001 0010", "00", "01", "10", "11");
    }

    /** The codes are those of the bytes 10, 20, 30, 40, or of 11, 21, 31, 41. */
    private static void twoFiles(Rig r, int first, int[] raw, String table, String... codes) {
        StringBuilder bits = new StringBuilder(table);
        for (int b : raw) {
            bits.append(codes[b / 10 - 1]);
        }
        int[] block = Blocks.block(3, 48, bits.toString());
        r.put(6, 1, Arrays.copyOf(raw, 24)).put(6, 2, Arrays.copyOfRange(raw, 24, 48)).commit(first == 2 ? 10 : 12);
        Blocks.sectors(r, first, block);
        int version = first == 2 ? 1 : 3;
        r.holds(6, version, Arrays.copyOf(raw, 24)).holds(6, version + 1, Arrays.copyOfRange(raw, 24, 48));
    }

    private static void tiesGoToTheLeastCodec() {
        // 2 bytes: 16 bits stored, 17 and 18 bits are 3 bytes by the others.
        Blocks.packs("two equal bytes", 0, Rig.row(4, 4), "00000100 00000100");
        // 3 equal bytes: 24 bits stored, 17 bits by matches are 3 bytes as well.
        Blocks.packs("three equal bytes", 0, Rig.row(4, 4, 4), "00000100 00000100 00000100");
        // 4 equal bytes: matches need 17 bits; differences need 26.
        Blocks.packs("four equal bytes", 1, Rig.row(4, 4, 4, 4), "0 00000100 1 0000 001");
        // Equal bytes 0 have the same bits by matches and by differences.
        Blocks.packs("zeros", 1, Rig.row(0, 0, 0, 0, 0), "0 00000000 1 0000 010");
    }

    private static void packsNothing() {
        Blocks.packs("no bytes", 0, Rig.row(), "");
    }

    private static void decodesStored() {
        Blocks.reads("stored", 0, 2, "00000001 11111111", 1, 255);
        Blocks.reads("stored with more bytes than it needs", 0, 1, "00000001 11111111", 1);
        Blocks.reads("no bytes stored", 0, 0, "");
        Blocks.fails("stored runs out", 0, 2, "00000001");
        Blocks.fails("stored has nothing", 0, 1, "");
    }

    private static void decodesMatches() {
        Blocks.reads("matches", 1, 6, "0 00001001 1 0000 011", 9, 9, 9, 9, 9, 9);
        Blocks.reads("matches of pairs", 1, 6, "0 00000001 0 00000010 1 0001 010", 1, 2, 1, 2, 1, 2);
        Blocks.reads("no bytes by matches", 1, 0, "");
        Blocks.fails("a match before the first byte", 1, 3, "0 00001001 1 0001 000");
        Blocks.fails("a match of nothing", 1, 2, "1 0000 000 00000000");
        Blocks.fails("a match beyond the number", 1, 3, "0 00001001 1 0000 001");
        Blocks.fails("matches run out in a byte", 1, 2, "0 00001001 0 000010");
        Blocks.fails("matches run out in a match", 1, 3, "0 00001001 1 000000");
        Blocks.fails("matches run out at a bit", 1, 8, "0 00001001 1 0000 000 1 0000 000 1 0000 000 0000000");
    }

    private static void decodesDifferences() {
        Blocks.reads("differences", 2, 4, "0 11111110 0 00000001 1 0000 000", 254, 255, 0, 1);
        Blocks.reads("no bytes by differences", 2, 0, "");
        Blocks.fails("differences before the first byte", 2, 3, "0 00001001 1 0001 000");
        Blocks.fails("differences run out", 2, 3, "0 00001001 0 00000001");
    }

    private static void decodesPrefix() {
        Blocks.reads("one byte", 3, 3, "0000001 00000101 0001  0 0 0", 5, 5, 5);
        Blocks.reads("three bytes", 3, 4, "0000011 00000001 0010 00000010 0001 00000011 0010  0 10 11 0", 2, 1, 3, 2);
        Blocks.reads("bytes 0 and 255", 3, 2, "0000010 00000000 0001 11111111 0001  1 0", 255, 0);
        Blocks.fails("no bytes in the table", 3, 1, "0000000 00000000");
        Blocks.fails("no bytes in the table, and none to take", 3, 0, "0000000 0");
        Blocks.fails("bytes that stay the same", 3, 1, "0000010 00000101 0001 00000101 0001 0");
        Blocks.fails("bytes that fall", 3, 1, "0000010 00000101 0001 00000100 0001 0");
        Blocks.fails("a length 0", 3, 1, "0000010 00000101 0001 00000110 0000 0");
        Blocks.fails("a first length 0", 3, 1, "0000001 00000101 0000 0");
        Blocks.fails("the table runs out", 3, 1, "0000010 00000101 0001 00000110");
        Blocks.fails("the table runs out at once", 3, 1, "");
        // After the seven bits nine are left: eight would be too few for the byte and its length.
        Blocks.fails("the table runs out in its first byte", 3, 1, "0000001 00000101 0");
        Blocks.fails("the table runs out, and there is none to take", 3, 0, "0000010 00000101 0001 00000110");
        Blocks.fails("bytes that fall, and there is none to take", 3, 0, "0000010 00000101 0001 00000100 0001 0");
        Blocks.fails("codes run out", 3, 8, "0000001 00000101 0001 0 0 0 0 0");
        Blocks.fails("no code", 3, 1, "0000001 00000101 0001  1 0000000 00000000 00000000");
        Blocks.fails("no code, and bits run out", 3, 1, "0000001 00000101 0010  10 000");
    }

    private static void decodesPrefixOfOddLengths() {
        StringBuilder table = new StringBuilder("1111111");
        for (int b = 0; b < 127; b++) {
            table.append(Integer.toBinaryString(256 + b).substring(1)).append("0111");
        }
        Blocks.reads("127 bytes", 3, 3, table + "1111110 0000000 0111111", 126, 0, 63);
        Blocks.reads("a single byte of length 15", 3, 2, "0000001 00000101 1111  000000000000000 000000000000000", 5, 5);
        Blocks.fails("a single byte of length 15, other bits", 3, 1, "0000001 00000101 1111  000000000000001 000000000000000");
        // Lengths 1, 1, 1, 2: the codes are 0, 1, and two that need more bits than they have.
        String crowded = "0000100 00000001 0001 00000010 0001 00000011 0001 00000100 0010 ";
        Blocks.reads("too many short codes", 3, 3, crowded + "0 1 0", 1, 2, 1);
        // Lengths 1 and 3, by length and not by byte: 0 and 100.
        Blocks.reads("a gap", 3, 3, "0000010 00000001 0011 00000010 0001  100 0 100", 1, 2, 1);
        Blocks.fails("into the gap", 3, 1, "0000010 00000001 0011 00000010 0001  101 0000 00000000 0000");
    }

    private static void blockAndSectors() {
        Blocks.fails("codec 4", 4, 1, "00000000 00000000");
        Blocks.fails("codec 255", 255, 0, "");
        Blocks.laid("just as many bytes as the sectors have", 1, 6, 2, 0, 8, 8, 1, 2, 3, 4, 5, 6, 7, 8).holds(3, 1, 7, 8);
        Blocks.laid("fewer bytes in the sectors than it says", 1, 0, 2, 0, 8, 9, 1, 2, 3, 4, 5, 6, 7, 8).extract(3, 1, -2);
        Blocks.laid("a whole block", 2, 0, 2, 0, 8, 9, 1, 2, 3, 4, 5, 6, 7, 8).holds(3, 1, 1, 2);
        Blocks.laid("the file reaches beyond the block", 1, 7, 2, 0, 8, 8, 1, 2, 3, 4, 5, 6, 7, 8).extract(3, 1, -2);
        Blocks.laid("the file begins beyond the block", 1, 9, 0, 0, 8, 8, 1, 2, 3, 4, 5, 6, 7, 8).extract(3, 1, -2);
        Blocks.laid("no bytes at the block's end", 1, 8, 0, 0, 8, 8, 1, 2, 3, 4, 5, 6, 7, 8).holds(3, 1);
        Blocks.laid("a begin of 255", 1, 255, 24, 0, 8, 8, 1, 2, 3, 4, 5, 6, 7, 8).extract(3, 1, -2);
        Blocks.laid("44 sectors", 44, 0, 1, 0, 1, 1, 6).holds(3, 1, 6);
        Blocks.laid("255 of 44 sectors", 44, 0, 1, 0, 255, 255, 6).holds(3, 1, 6);
        Blocks.laid("a bad sector that the bytes don't need", 3, 0, 1, 0, 1, 1, 6).damage(6, 0, 1, true).holds(3, 1, 6)
                .damage(5, 0, 1, true).extract(3, 1, -2).extracted(0, 6);
    }
}
