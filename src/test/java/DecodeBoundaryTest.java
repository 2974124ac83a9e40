/** The edges that "Terms" names of decoding, and promise 7's of what a block must have; a method for each case. */
final class DecodeBoundaryTest {
    public static void main(String[] args) {
        untilThereAreAsManyAsTheBlockSays();
        failsWhenBitsRunOut();
        failsWhenAMatchGoesBeforeTheFirstByte();
        failsWhenAMatchGoesBeyondTheNumber();
        failsWhenPrefixHasNoBytes();
        failsWhenBytesDoNotRise();
        failsWhenALengthIs0();
        failsWhenFifteenBitsAreNoCode();
        codesAreMadeOfLengthsWhateverTheseAre();
        theFirstBitsThatAreOneAreIt();
        failsWhenTheCodecIsAbove3();
        failsWhenTheSectorsHaveFewerBytes();
        damagedWhenTheBlockHasNotSoManyBytes();
        differencesFailAsMatches();
        Rig.finish();
    }

    private static void untilThereAreAsManyAsTheBlockSays() {
        Blocks.reads("as many as the block says: none", 0, 0, "");
        Blocks.reads("as many as the block says: none of many", 0, 0, "11111111 11111111");
        Blocks.reads("as many as the block says: what is behind does not matter", 1, 1, "0 00000111 1 1111 111 11111111", 7);
        Blocks.reads("as many as the block says: none by MATCHES", 1, 0, "11111111");
        Blocks.reads("as many as the block says: none by DIFFERENCES", 2, 0, "11111111");
        Blocks.reads("as many as the block says: none by PREFIX", 3, 0, "0000001 00000101 0001 11111");
        // A byte, 28 rows of nine and one of two are 255 bytes.
        String bits = "0 00000111 " + "1 0000 111 ".repeat(28) + "1 0000 000";
        int[] sevens = {7, 7, 7, 7, 7, 7, 7, 7, 7, 7, 7, 7, 7, 7, 7, 7, 7, 7, 7, 7, 7, 7, 7, 7};
        Blocks.laid("255 bytes, the last of them", 4, 231, 24, Blocks.block(1, 255, bits)).holds(3, 1, sevens);
        Blocks.laid("255 bytes, one beyond", 4, 232, 24, Blocks.block(1, 255, bits)).extract(3, 1, -2);
        Blocks.laid("255 bytes, none behind", 4, 255, 0, Blocks.block(1, 255, bits)).holds(3, 1);
    }

    private static void failsWhenBitsRunOut() {
        Blocks.reads("bits run out: STORED has just enough", 0, 2, "00000001 00000010", 1, 2);
        Blocks.fails("bits run out: STORED lacks one byte", 0, 3, "00000001 00000010");
        Blocks.fails("bits run out: STORED has none", 0, 1, "");
        String eight = "0 00000001 0 00000010 0 00000011 0 00000100 0 00000101 0 00000110 0 00000111 0 00001000 ";
        Blocks.reads("bits run out: MATCHES has just enough for bytes", 1, 8, eight, 1, 2, 3, 4, 5, 6, 7, 8);
        Blocks.reads("bits run out: MATCHES has just enough for a row", 1, 10, eight + "1 0111 000", 1, 2, 3, 4, 5, 6, 7, 8, 1, 2);
        Blocks.fails("bits run out: MATCHES lacks the first bit", 1, 9, eight);
        Blocks.fails("bits run out: MATCHES lacks the last bit of a byte", 1, 9, eight + "0 0000000");
        Blocks.fails("bits run out: MATCHES lacks the last bit of a row", 1, 3, "0 00000001 1 0000 00");
        Blocks.fails("bits run out: MATCHES has none", 1, 1, "");
        Blocks.reads("bits run out: PREFIX has just enough", 3, 5, "0000001 00000101 0001 00000", 5, 5, 5, 5, 5);
        Blocks.fails("bits run out: PREFIX lacks one bit", 3, 6, "0000001 00000101 0001 00000");
        Blocks.fails("bits run out: PREFIX has none", 3, 1, "");
        Blocks.fails("bits run out: PREFIX in a byte of its table", 3, 1, "0000001 000001010");
        Blocks.fails("bits run out: PREFIX in a length of its table", 3, 1, "0000010 00000101 0001 00000");
        Blocks.fails("bits run out: PREFIX in its table, and none are to be taken", 3, 0, "0000010 00000101 0001 00000");
        Blocks.fails("bits run out: PREFIX has a bit of a code of four", 3, 1, "0001100" + table(12, 4) + "0");
    }

    /** A table of the bytes 1, 2, .. with one length. */
    private static String table(int count, int length) {
        StringBuilder bits = new StringBuilder();
        for (int b = 1; b <= count; b++) {
            bits.append(Integer.toBinaryString(256 + b).substring(1)).append(Integer.toBinaryString(16 + length).substring(1));
        }
        return bits.toString();
    }

    private static void failsWhenAMatchGoesBeforeTheFirstByte() {
        Blocks.reads("a match from the first byte on", 1, 4, "0 00000001 0 00000010 1 0001 000", 1, 2, 1, 2);
        Blocks.fails("a match before the first byte", 1, 4, "0 00000001 0 00000010 1 0010 000");
        Blocks.fails("a match at the first place", 1, 2, "1 0000 000");
        Blocks.fails("a match far before the first byte", 1, 10, "0 00000001 1 1111 111");
        String sixteen = "0 00000001 0 00000010 1 0001 111 1 0001 011";
        Blocks.reads("a match 16 back at place 16", 1, 18, sixteen + " 1 1111 000", 1, 2, 1, 2, 1, 2, 1, 2, 1, 2, 1, 2, 1, 2, 1, 2, 1, 2);
        String fifteen = "0 00000001 0 00000010 1 0001 111 1 0001 010";
        Blocks.fails("a match 16 back at place 15", 1, 17, fifteen + " 1 1111 000");
    }

    private static void failsWhenAMatchGoesBeyondTheNumber() {
        Blocks.reads("a match up to that number", 1, 10, "0 00000001 1 0000 111", 1, 1, 1, 1, 1, 1, 1, 1, 1, 1);
        Blocks.fails("a match one beyond that number", 1, 9, "0 00000001 1 0000 111");
        Blocks.reads("a match of 2 up to that number", 1, 3, "0 00000001 1 0000 000", 1, 1, 1);
        Blocks.fails("a match of 2 beyond that number", 1, 2, "0 00000001 1 0000 000");
    }

    private static void failsWhenPrefixHasNoBytes() {
        Blocks.fails("PREFIX has no bytes", 3, 1, "0000000 0 00000000 00000000");
        Blocks.fails("PREFIX has no bytes, and none are to be taken", 3, 0, "0000000 0");
        Blocks.reads("PREFIX has one byte", 3, 2, "0000001 00000000 0001 0 0", 0, 0);
        Blocks.reads("PREFIX has 127 bytes", 3, 2, "1111111" + table(127, 7) + "1111110 0000000", 127, 1);
    }

    private static void failsWhenBytesDoNotRise() {
        Blocks.reads("bytes that rise by 1", 3, 2, "0000010 00000100 0001 00000101 0001 0 1", 4, 5);
        Blocks.fails("bytes that stay", 3, 2, "0000010 00000100 0001 00000100 0001 0 1");
        Blocks.fails("bytes that fall", 3, 2, "0000010 00000101 0001 00000100 0001 0 1");
        Blocks.fails("bytes that fall at last", 3, 1, "0000011 00000001 0001 00000101 0010 00000100 0010 0");
        Blocks.reads("bytes from 0 to 255", 3, 2, "0000010 00000000 0001 11111111 0001 0 1", 0, 255);
        Blocks.fails("bytes that do not rise, and none are to be taken", 3, 0, "0000010 00000100 0001 00000100 0001 0");
    }

    private static void failsWhenALengthIs0() {
        Blocks.fails("a length 0", 3, 1, "0000001 00000100 0000 0");
        Blocks.fails("a length 0 of a byte that does not come", 3, 1, "0000010 00000100 0001 00000101 0000 0");
        Blocks.fails("a length 0, and none are to be taken", 3, 0, "0000001 00000100 0000 0");
        Blocks.reads("a length 1", 3, 1, "0000001 00000100 0001 0", 4);
        Blocks.reads("a length 15", 3, 2, "0000010 00000100 1111 00000101 1111 000000000000001 000000000000000", 5, 4);
    }

    private static void failsWhenFifteenBitsAreNoCode() {
        Blocks.reads("fifteen bits that are a code", 3, 1, "0000001 00000100 1111 000000000000000", 4);
        Blocks.fails("fifteen bits that are no code", 3, 1, "0000001 00000100 1111 000000000000001 00000000 00000000");
        Blocks.fails("fifteen bits that are no code of length 1", 3, 1, "0000001 00000100 0001 100000000000000 0 0 0 0 0 0");
        Blocks.fails("fifteen bits that are no code, the second one", 3, 2, "0000001 00000100 0001 0 111111111111111 0 0 0");
    }

    private static void codesAreMadeOfLengthsWhateverTheseAre() {
        // Lengths 2 and 4: 00 and 0100; what lies between them is no code.
        Blocks.reads("codes with gaps", 3, 3, "0000010 00000100 0100 00000101 0010 0100 00 0100", 4, 5, 4);
        Blocks.fails("codes with gaps, in the gap", 3, 1, "0000010 00000100 0100 00000101 0010 0101 00000000000 000");
        // Lengths 1, 1, 1 and 3: the first two take all bits there are.
        Blocks.reads("codes that are too many", 3, 4, "0000100 00000001 0001 00000010 0001 00000011 0001 00000100 0011 1 0 0 1", 2, 1, 1, 2);
        // Twelve of length 1 are no worse.
        Blocks.reads("codes that are far too many", 3, 3, "0001100" + table(12, 1) + "1 0 1", 2, 1, 2);
        Blocks.reads("127 codes of length 15", 3, 2, "1111111" + table(127, 15) + "000000001111110 000000000000000", 127, 1);
    }

    private static void theFirstBitsThatAreOneAreIt() {
        // Lengths 3, 1, 2, 3 of 1, 2, 3, 4: codes 110, 0, 10, 111.
        String four = "0000100 00000001 0011 00000010 0001 00000011 0010 00000100 0011 ";
        Blocks.reads("the first bits that are one are it", 3, 6, four + "0 10 110 111 0 10", 2, 3, 1, 4, 2, 3);
    }

    private static void failsWhenTheCodecIsAbove3() {
        Blocks.reads("codec 3", 3, 1, "0000001 00000100 0001 0", 4);
        Blocks.fails("codec 4", 4, 1, "0000001 00000100 0001 0");
        Blocks.fails("codec 4, and none are to be taken", 4, 0, "");
        Blocks.fails("codec 255", 255, 0, "");
    }

    private static void failsWhenTheSectorsHaveFewerBytes() {
        Blocks.laid("8 bytes in one sector", 1, 0, 0, 0, 0, 8).holds(3, 1);
        Blocks.laid("9 bytes in one sector", 1, 0, 0, 0, 0, 9).extract(3, 1, -2);
        Blocks.laid("19 bytes in two sectors", 2, 0, 0, 0, 0, 19).holds(3, 1);
        Blocks.laid("20 bytes in two sectors", 2, 0, 0, 0, 0, 20).extract(3, 1, -2);
        int[] zeros = new int[24];
        Blocks.laid("255 bytes in 24 sectors", 24, 231, 24, 0, 255, 255).holds(3, 1, zeros);
        Blocks.laid("255 bytes in 23 sectors", 23, 0, 1, 0, 255, 255).extract(3, 1, -2);
        // It says 255 bytes by MATCHES, of which one is needed.
        Blocks.laid("more bytes than the sectors have, though few are needed", 1, 0, 1, 1, 1, 255, 0, 128).extract(3, 1, -2);
    }

    private static void damagedWhenTheBlockHasNotSoManyBytes() {
        int[] block = {0, 8, 8, 1, 2, 3, 4, 5, 6, 7, 8};
        Blocks.laid("all bytes of the block", 1, 0, 8, block).holds(3, 1, 1, 2, 3, 4, 5, 6, 7, 8);
        Blocks.laid("one byte more than the block", 1, 0, 9, block).extract(3, 1, -2).extracted(0, -1);
        Blocks.laid("the last byte of the block", 1, 7, 1, block).holds(3, 1, 8);
        Blocks.laid("the byte behind the block", 1, 8, 1, block).extract(3, 1, -2);
        Blocks.laid("no byte at the block's end", 1, 8, 0, block).holds(3, 1);
        Blocks.laid("no byte behind the block's end", 1, 9, 0, block).extract(3, 1, -2);
        Blocks.laid("a begin of 255", 1, 255, 24, block).extract(3, 1, -2);
        // What the sectors hold behind the bytes that the block says are not the block's.
        Blocks.laid("a byte behind those that it says", 1, 0, 8, 0, 7, 8, 1, 2, 3, 4, 5, 6, 7, 8).extract(3, 1, -2);
    }

    private static void differencesFailAsMatches() {
        Blocks.reads("DIFFERENCES up to that number", 2, 3, "0 00000001 1 0000 000", 1, 2, 3);
        Blocks.fails("DIFFERENCES beyond that number", 2, 2, "0 00000001 1 0000 000");
        Blocks.fails("DIFFERENCES before the first byte", 2, 3, "0 00000001 1 0001 000");
        Blocks.fails("DIFFERENCES run out", 2, 2, "0 00000001 0 000000");
        Blocks.reads("DIFFERENCES over 255", 2, 4, "0 11111111 0 00000001 0 11111111 0 11111111", 255, 0, 255, 254);
    }
}
