/** The edges that "Terms" names of the codecs, blocks and decoding; a method for each sentence. */
final class CodecBoundaryTest {
    public static void main(String[] args) {
        bitsFillBytesFromTheHighestOn();
        storedHighestBitFirst();
        matchesOf2To9Bytes();
        matchesFrom1To16Back();
        matchesNotBeforeTheFirstByte();
        matchesMayReachBeyond();
        matchesTheLongestThenTheLeastDistance();
        matchesOverTheEndOfAFile();
        differencesModulo256();
        prefixTellsHowManyDifferentBytes();
        prefixOfTheSameWeightTheLeastByteFirst();
        prefixTreesHaveBothWeights();
        prefixCodesByLengthThenByByte();
        prefixOfEachBlockAnew();
        prefixOfTheLongestCodes();
        prefixIsNotTakenForNoBytes();
        theCodecThatGivesTheFewestBytes();
        ofThoseTheOneWithTheLeastNumber();
        Rig.finish();
    }

    private static void bitsFillBytesFromTheHighestOn() {
        // 17 bits: the last byte has one bit of its own and seven 0.
        Rig r = new Rig("fill bytes from the highest bit on (the last one is filled with 0)");
        r.put(0, 1, 255, 255, 255, 255, 255, 255, 255, 255, 255, 255).commit(6).sector(2, 1, 10, 3, 127, 195, 128);
        // The byte before in the same place does not show through: this one has all 0 there.
        r.put(0, 1, 0, 0, 0, 0, 0, 0, 0, 0).commit(8).sector(4, 1, 8, 3, 0, 66, 128);
    }

    private static void storedHighestBitFirst() {
        Blocks.packs("STORED: the eight bits of each byte, the highest first", 0, Rig.row(128, 1), "10000000 00000001");
        Blocks.packs("STORED: one byte", 0, Rig.row(255), "11111111");
    }

    private static void matchesOf2To9Bytes() {
        Blocks.packs("MATCHES: a row of one byte is none", 1, Rig.row(5, 5, 5, 5, 5, 5, 5, 5, 5, 5, 7, 5),
                "0 00000101 1 0000 111 0 00000111 0 00000101");
        Blocks.packs("MATCHES: a row of 2", 1, Rig.row(5, 5, 5, 5, 5, 5, 7, 5, 5), "0 00000101 1 0000 011 0 00000111 1 0010 000");
        Blocks.packs("MATCHES: a row of 9", 1, Rig.row(5, 5, 5, 5, 5, 5, 5, 5, 5, 5), "0 00000101 1 0000 111");
        Blocks.packs("MATCHES: a row of 10 is 9 and one byte", 1, Rig.row(5, 5, 5, 5, 5, 5, 5, 5, 5, 5, 5),
                "0 00000101 1 0000 111 0 00000101");
        Blocks.packs("MATCHES: a row of 11 is 9 and 2", 1, Rig.row(5, 5, 5, 5, 5, 5, 5, 5, 5, 5, 5, 5), "0 00000101 1 0000 111 1 0000 000");
    }

    private static void matchesFrom1To16Back() {
        Blocks.packs("MATCHES: d 1", 1, Rig.row(4, 4, 4, 4), "0 00000100 1 0000 001");
        Blocks.packs("MATCHES: d 16", 1, Rig.row(7, 8, 9, 0, 0, 0, 0, 0, 0, 0, 0, 0, 0, 0, 0, 0, 7, 8, 9),
                "0 00000111 0 00001000 0 00001001 0 00000000 1 0000 111 1 0000 001 1 1111 001");
        Blocks.packs("MATCHES: 17 back is too far", 1, Rig.row(7, 8, 9, 0, 0, 0, 0, 0, 0, 0, 0, 0, 0, 0, 0, 0, 0, 7, 8, 9),
                "0 00000111 0 00001000 0 00001001 0 00000000 1 0000 111 1 0000 010 0 00000111 0 00001000 0 00001001");
    }

    private static void matchesNotBeforeTheFirstByte() {
        // Nothing is before the first byte, not even bytes 0 or those of the block before.
        Rig r = new Rig("MATCHES: not before the first byte");
        r.put(0, 1, 0, 0, 0, 0, 0, 0, 0, 0).commit(6).sector(2, 1, 8, 3, 0, 66, 128);
        r.put(0, 1, 0, 0, 0, 0, 0, 0, 0, 0).commit(8).sector(4, 1, 8, 3, 0, 66, 128);
        r.put(0, 1, 4, 4, 4, 4).commit(8).sector(3, 1, 4, 3, 2, 64, 128);
    }

    private static void matchesMayReachBeyond() {
        Blocks.packs("MATCHES: it may reach beyond i - 1", 1, Rig.row(1, 2, 1, 2, 1, 2, 1, 2, 1, 2, 1), "0 00000001 0 00000010 1 0001 111");
    }

    private static void matchesTheLongestThenTheLeastDistance() {
        Blocks.packs("MATCHES: the longest row, even from farther", 1, Rig.row(1, 2, 3, 4, 9, 1, 2, 8, 1, 2, 3, 4),
                "0 00000001 0 00000010 0 00000011 0 00000100 0 00001001 1 0100 000 0 00001000 1 0111 010");
        Blocks.packs("MATCHES: of the longest ones that with the least d", 1, Rig.row(1, 2, 9, 1, 2, 8, 1, 2),
                "0 00000001 0 00000010 0 00001001 1 0010 000 0 00001000 1 0010 000");
    }

    private static void matchesOverTheEndOfAFile() {
        Rig r = new Rig("MATCHES: of all added files' bytes");
        r.put(0, 1, 5, 6, 7, 8).put(1, 2, 5, 6, 7, 8).commit(8);
        Blocks.sectors(r, 2, Blocks.block(1, 8, "0 00000101 0 00000110 0 00000111 0 00001000 1 0011 010"));
        r.holds(0, 1, 5, 6, 7, 8).holds(1, 1, 5, 6, 7, 8);
    }

    private static void differencesModulo256() {
        Blocks.packs("DIFFERENCES: 0 less 255 is 1", 2, Rig.row(254, 255, 0, 1, 2, 3), "0 11111110 0 00000001 1 0000 010");
        Blocks.packs("DIFFERENCES: 255 less 0 is 255", 2, Rig.row(1, 0, 255, 254, 253, 252), "0 00000001 0 11111111 1 0000 010");
        Blocks.packs("DIFFERENCES: each byte but the first", 2, Rig.row(200, 200, 201, 202, 203, 204), "0 11001000 0 00000000 0 00000001 1 0000 001");
    }

    private static void prefixTellsHowManyDifferentBytes() {
        Blocks.packs("PREFIX: two different bytes", 3, Rig.row(28, 29, 29, 28, 28, 29), "0000010 00011100 0001 00011101 0001 0 1 1 0 0 1");
        Blocks.packs("PREFIX: the bytes 0 and 255", 3, Rig.row(255, 0, 0, 255, 255, 0, 255), "0000010 00000000 0001 11111111 0001 1 0 0 1 1 0 1");
    }

    private static void prefixOfTheSameWeightTheLeastByteFirst() {
        // Of 10, 20 and 30, which weigh 8 each, the two least bytes become one; 30 has the short code.
        int[] raw = {30, 10, 20, 20, 30, 10, 10, 30, 20, 30, 30, 20, 10, 30, 20, 10, 20, 10, 30, 20, 10, 10, 20, 30};
        StringBuilder bits = new StringBuilder("0000011 00001010 0010 00010100 0010 00011110 0001 ");
        for (int b : raw) {
            bits.append(b == 10 ? "10" : b == 20 ? "11" : "0");
        }
        Blocks.packs("PREFIX: of the same weight that with the least byte in it first", 3, raw, bits.toString());
    }

    private static void prefixTreesHaveBothWeights() {
        // Weights 5, 5, 6, 8 of 11, 21, 31, 41: 11 and 21 weigh 10 together, so 31 and 41 come before them, and all have length 2.
        int[] raw = {41, 11, 31, 21, 41, 41, 31, 11, 21, 41, 31, 31, 11, 41, 21, 21, 41, 31, 11, 41, 21, 41, 31, 11};
        StringBuilder bits = new StringBuilder("0000100 00001011 0010 00010101 0010 00011111 0010 00101001 0010 ");
        for (int b : raw) {
            bits.append(b == 11 ? "00" : b == 21 ? "01" : b == 31 ? "10" : "11");
        }
        Blocks.packs("PREFIX: the two trees of least weight become one with both weights", 3, raw, bits.toString());
        // Weights 4, 4, 8, 8 of 10, 20, 30, 40: 10 and 20 weigh 8 together and have the least byte in them, so 30 joins them.
        int[] tied = {40, 30, 20, 40, 30, 10, 30, 40, 40, 20, 30, 40, 10, 30, 30, 20, 40, 40, 10, 30, 20, 40, 30, 10};
        bits = new StringBuilder("0000100 00001010 0011 00010100 0011 00011110 0010 00101000 0001 ");
        for (int b : tied) {
            bits.append(b == 10 ? "110" : b == 20 ? "111" : b == 30 ? "10" : "0");
        }
        Blocks.packs("PREFIX: a tree of the same weight as a byte", 3, tied, bits.toString());
    }

    private static void prefixOfEachBlockAnew() {
        // Nothing of the first block's bytes is left in the second's table, nor of one that was read between.
        Rig r = new Rig("PREFIX: how many different bytes there are, twice");
        r.put(0, 1, 28, 29, 29, 28, 28, 29).commit(6).put(0, 1, 0, 0, 1, 0, 0, 0).commit(8).holds(0, 1, 28, 29, 29, 28, 28, 29);
        r.put(0, 1, 255, 0, 0, 255, 255, 0, 255).commit(8);
        Blocks.sectors(r, 2, Blocks.block(3, 6, "0000010 00011100 0001 00011101 0001 0 1 1 0 0 1"));
        Blocks.sectors(r, 4, Blocks.block(3, 6, "0000010 00000000 0001 00000001 0001 0 0 1 0 0 0"));
        Blocks.sectors(r, 3, Blocks.block(3, 7, "0000010 00000000 0001 11111111 0001 1 0 0 1 1 0 1"));
        r.holds(0, 3, 255, 0, 0, 255, 255, 0, 255).holds(0, 2, 0, 0, 1, 0, 0, 0);
    }

    /** Each weight is what the two least ones before it weigh together: no other bytes of a commit need longer codes. */
    private static void prefixOfTheLongestCodes() {
        int[] values = {50, 40, 60, 10, 20, 90, 80, 70, 71};
        int[] weights = {34, 21, 13, 8, 5, 3, 2, 1, 1};
        String[] codes = {"0", "10", "110", "1110", "11110", "111110", "1111110", "11111110", "11111111"};
        StringBuilder bits = new StringBuilder("0001001");
        for (int k : Rig.row(3, 4, 1, 0, 2, 7, 8, 6, 5)) {
            bits.append(Integer.toBinaryString(256 + values[k]).substring(1)).append(Integer.toBinaryString(16 + codes[k].length()).substring(1));
        }
        Rig r = new Rig("PREFIX: (More than 15 is never needed.)");
        int[][] raw = new int[4][22];
        for (int i = 0; i < 88; i++) {
            int k = 0;
            for (int left = 37 * i % 88; left >= weights[k]; k++) {
                left -= weights[k];
            }
            raw[i / 22][i % 22] = values[k];
            bits.append(codes[k]);
        }
        for (int i = 0; i < 4; i++) {
            r.put(i, i + 1, raw[i]);
        }
        // 335 bits are 42 bytes: a block of 45, five sectors; the index has three.
        r.commit(18);
        Blocks.sectors(r, 2, Blocks.block(3, 88, bits.toString()));
        for (int i = 0; i < 4; i++) {
            r.holds(i, 1, raw[i]);
        }
    }

    private static void prefixCodesByLengthThenByByte() {
        // Weights 12, 6, 3, 3 of 7, 5, 1, 200: codes 0, 10, 110, 111.
        int[] raw = {7, 5, 7, 1, 7, 7, 200, 5, 7, 7, 5, 1, 7, 200, 7, 5, 5, 7, 7, 1, 7, 200, 5, 7};
        StringBuilder bits = new StringBuilder("0000100 00000001 0011 00000101 0010 00000111 0001 11001000 0011 ");
        for (int b : raw) {
            bits.append(b == 7 ? "0" : b == 5 ? "10" : b == 1 ? "110" : "111");
        }
        Blocks.packs("PREFIX: by length, those of one length in rising order", 3, raw, bits.toString());
    }

    private static void prefixIsNotTakenForNoBytes() {
        Blocks.packs("PREFIX is not taken for no bytes", 0, Rig.row(), "");
        new Rig("four files of no bytes").add(0, 1).add(0, 2).add(1, 3).add(1, 4).commit(10).sector(2).holds(0, 1).holds(1, 2);
    }

    /** Each codec is a single byte better than each other one here. */
    private static void theCodecThatGivesTheFewestBytes() {
        Blocks.packs("fewest: STORED 2, MATCHES 3, DIFFERENCES 3", 0, Rig.row(10, 12), "00001010 00001100");
        Blocks.packs("fewest: STORED 2, PREFIX 3", 0, Rig.row(23, 23), "00010111 00010111");
        Blocks.packs("fewest: MATCHES 4, all others 5", 1, Rig.row(3, 5, 5, 5, 5), "0 00000011 0 00000101 1 0000 001");
        Blocks.packs("fewest: DIFFERENCES 3, STORED 4", 2, Rig.row(2, 4, 6, 8), "0 00000010 1 0000 001");
        Blocks.packs("fewest: DIFFERENCES 5, MATCHES 6", 2, Rig.row(3, 6, 9, 12, 9, 12),
                "0 00000011 1 0000 001 0 11111101 0 00000011");
        Blocks.packs("fewest: DIFFERENCES 6, all others 7", 2, Rig.row(0, 1, 1, 2, 2, 1, 2),
                "0 00000000 0 00000001 1 0001 001 0 11111111 0 00000001");
        Blocks.packs("fewest: PREFIX 5, STORED and MATCHES 6", 3, Rig.row(28, 29, 29, 28, 28, 29), "0000010 00011100 0001 00011101 0001 0 1 1 0 0 1");
        Blocks.packs("fewest: PREFIX 5, all others 6", 3, Rig.row(0, 0, 1, 0, 0, 0), "0000010 00000000 0001 00000001 0001 0 0 1 0 0 0");
    }

    private static void ofThoseTheOneWithTheLeastNumber() {
        Blocks.packs("the same: all", 0, Rig.row(0, 0, 0), "00000000 00000000 00000000");
        Blocks.packs("the same: STORED, MATCHES", 0, Rig.row(13, 13, 13, 16), "00001101 00001101 00001101 00010000");
        Blocks.packs("the same: STORED, DIFFERENCES", 0, Rig.row(2, 4, 6), "00000010 00000100 00000110");
        Blocks.packs("the same: STORED, PREFIX", 0, Rig.row(1, 0, 0, 1, 1), "00000001 00000000 00000000 00000001 00000001");
        Blocks.packs("the same: MATCHES, DIFFERENCES", 1, Rig.row(0, 0, 0, 0, 3), "0 00000000 1 0000 001 0 00000011");
        Blocks.packs("the same: MATCHES, PREFIX", 1, Rig.row(23, 23, 23, 23), "0 00010111 1 0000 001");
        Blocks.packs("the same: DIFFERENCES, PREFIX", 2, Rig.row(3, 3, 6, 6, 9, 6, 3, 6),
                "0 00000011 0 00000000 1 0001 001 0 11111101 0 11111101 0 00000011");
    }
}
