/** The edges that "Terms" names of bytes, the image, the check, groups, writing and reading; a method for each sentence. */
final class ImageBoundaryTest {
    /** Checks reckoned by hand from the document, of eleven bytes that are 0 but for those told. */
    private static final int CHECK_OF_ZEROS = 104;

    public static void main(String[] args) {
        bytesAre0To255();
        theImageHas48And12SectorsOf12Bytes();
        atFirstEleven0AndTheirCheck();
        theCheckDoublesAndFolds();
        everyByteHasItsOwnCheck();
        goodByTheTwelfthByte();
        groupsOfFourAndTheirParity();
        theseAndTheirCheckBecomeTheSector();
        parityTakesSectorsAsTheyAreNow();
        aWriteIsTwoWritings();
        readingAGoodSectorAsksNoOther();
        readingRestoresFromFourGoodOnes();
        readingFailsWithASecondBadOne();
        restoredInReadingAlone();
        Rig.finish();
    }

    private static void bytesAre0To255() {
        Rig r = new Rig("BYTES are 0 .. 255");
        r.write(1, 0, true).write(1, 255, true).write(1, 256, true).write(1, -1, true).write(2, 0x8000FFL, true);
        r.write(1, Long.MIN_VALUE, true).write(8, Long.MIN_VALUE, true).write(8, Long.MAX_VALUE, true).add(0, 1).commit(8);
        r.holds(0, 1, 0, 255, 0, 255, 255, 0, 0, 0, 0, 0, 0, 0, 0, 0, 128, 255, 255, 255, 255, 255, 255, 255, 127);
        r.damage(40, 0, 255, true).at(40, 0, 255).damage(40, 0, 128, true).at(40, 0, 127).damage(40, 0, 127, true).at(40, 0, 0);
    }

    private static void theImageHas48And12SectorsOf12Bytes() {
        Rig r = new Rig("48 DATA sectors 0 .. 47 and 12 PARITY sectors 48 .. 59 of 12 bytes each");
        r.at(0, 0, 0).at(0, 11, CHECK_OF_ZEROS).at(59, 0, 0).at(59, 11, CHECK_OF_ZEROS);
        r.at(-1, 0, -1).at(60, 0, -1).at(0, -1, -1).at(0, 12, -1).at(59, 12, -1).at(60, 12, -1).at(1, -12, -1);
        // 47 is the last data sector and 48 the first parity sector: a block in 47 has its parity in 59.
        r.lay(1, 83, 65, 1, 2, 1).lay(2, 1, 0, 1, 3, 43, 0, 0, 1).open(1).remove(0, 1, true).put(1, 1, 6).commit(6);
        r.sector(46, 0, 1, 1, 6).sector(47, 1, 1, 1, 46, 1, 0, 1, 2).sector(59, 1, 0, 0, 40, 1, 0, 1, 2);
    }

    private static void atFirstEleven0AndTheirCheck() {
        for (int from = 0; from < 60; from += 20) {
            Rig r = new Rig("at first eleven 0 and their check, from " + from);
            for (int s = from; s < from + 20; s++) {
                for (int place = 0; place < 11; place++) {
                    r.at(s, place, 0);
                }
                r.at(s, 11, CHECK_OF_ZEROS);
            }
        }
        // They are good, and parity fits: repair has nothing to write.
        new Rig("at first every sector is good").limit(0, true).repair(0).down(false);
    }

    private static void theCheckDoublesAndFolds() {
        // Blocks of one byte, 0 1 1 and the byte; 90 ^ 37 is 127 and 90 ^ 218 is 128, next to where it folds.
        int[][] due = {{0, 240}, {127, 90}, {128, 76}, {255, 230}};
        for (int[] pair : due) {
            new Rig("the check of a block of " + pair[0]).put(0, 1, pair[0]).commit(6).at(2, 3, pair[0]).at(2, 11, pair[1]);
        }
        int[][] firsts = {{1, 150}, {37, 255}, {127, 151}, {128, 138}, {218, 226}, {255, 117}};
        for (int[] pair : firsts) {
            good("a first byte of " + pair[0], 0, pair[0], pair[1]);
        }
        int[][] lasts = {{1, 117}, {128, 78}, {255, 172}};
        for (int[] pair : lasts) {
            good("an eleventh byte of " + pair[0], 10, pair[0], pair[1]);
        }
    }

    /** A sector with one byte that is not 0 and that check is good: repair takes its parity from it. */
    private static void good(String name, int place, int value, int check) {
        Rig r = new Rig(name);
        r.damage(20, place, value, true);
        if (check != CHECK_OF_ZEROS) {
            r.damage(20, 11, CHECK_OF_ZEROS ^ check, true);
        }
        r.limit(1, true).repair(0).down(false).at(20, place, value).at(53, place, value).at(53, 11, check);
    }

    private static void everyByteHasItsOwnCheck() {
        for (int value = 1; value < 256; value++) {
            for (int place = 0; place < 11; place += 5) {
                int[] bytes = new int[11];
                bytes[place] = value;
                good("the check with byte " + value + " at place " + place, place, value, Rig.check(bytes));
            }
        }
    }

    private static void goodByTheTwelfthByte() {
        for (int place = 0; place < 12; place++) {
            for (int bits = 1; bits < 256; bits *= 2) {
                Rig r = new Rig("GOOD when its twelfth byte is the check of the others, place " + place + " bits " + bits);
                r.damage(13, place, bits, true).limit(0, true).repair(-9).open(0).repair(0).sector(13);
                r.damage(51, place, bits, true).limit(0, true).repair(-9).open(0).repair(0).sector(51);
            }
        }
    }

    private static void groupsOfFourAndTheirParity() {
        for (int g = 0; g < 12; g++) {
            int parity = 48 + g;
            for (int s = 4 * g; s < 4 * g + 4; s++) {
                Rig r = new Rig("GROUP " + g + " has sector " + s);
                r.damage(s, 0, 1, true).damage(parity, 0, 1, true).repair(2).damage(parity, 0, 1, true).repair(0).sector(s);
            }
            Rig r = new Rig("GROUP " + g + " and no other");
            r.damage(parity, 0, 1, true).damage(4 * g, 0, 1, true);
            if (g > 0) {
                r.damage(4 * g - 1, 0, 1, true).damage(parity - 1, 1, 1, true).repair(4);
                r.damage(parity - 1, 1, 1, true).repair(2).sector(4 * g - 1);
            }
            if (g < 11) {
                r.damage(4 * g + 4, 0, 1, true).repair(2).sector(4 * g + 4);
            }
        }
    }

    private static void theseAndTheirCheckBecomeTheSector() {
        Rig r = new Rig("these and their check become the sector");
        // What was there, good or not, is gone: also behind the block's end.
        r.lay(2, 9, 9, 9, 9, 9, 9, 9, 9, 9, 9, 9).damage(3, 10, 77, true).damage(3, 11, 1, true).put(0, 1, 5).commit(6);
        r.sector(2, 0, 1, 1, 5).sector(3, 1, 0, 1, 2, 1, 0, 1, 1);
    }

    private static void parityTakesSectorsAsTheyAreNow() {
        Rig r = new Rig("the four data sectors (as they are now) joined by ^");
        // Sector 0 is bad, its byte counts all the same; what the parity sector held does not count.
        r.damage(0, 10, 64, true).damage(48, 9, 3, true).put(0, 1, 5).commit(6);
        r.sector(48, 83 ^ 1, 65 ^ 1, 1 ^ 1 ^ 1, 5 ^ 2 ^ 3, 1 ^ 1, 0, 1, 1, 0, 0, 64);
    }

    private static void aWriteIsTwoWritings() {
        Rig none = new Rig("no WRITING").put(0, 1, 5).limit(0, true).commit(-9);
        none.sector(2).sector(48).sector(3);
        Rig one = new Rig("one WRITING of two").put(0, 1, 5).limit(1, true).commit(-9);
        one.sector(2, 0, 1, 1, 5).sector(48).sector(3);
        Rig two = new Rig("two WRITINGS").put(0, 1, 5).limit(2, true).commit(-9);
        two.sector(2, 0, 1, 1, 5).sector(48, 0, 1, 1, 5).sector(3);
        Rig three = new Rig("three WRITINGS").put(0, 1, 5).limit(3, true).commit(-9);
        three.sector(2, 0, 1, 1, 5).sector(48, 0, 1, 1, 5).sector(3, 1, 0, 1, 2, 1, 0, 1, 1);
    }

    /** A block in sector 2 of the bytes 5 and 6, its index in 3, its header in 1. */
    private static Rig small(String name) {
        return new Rig(name).put(0, 1, 5, 6).commit(6);
    }

    private static void readingAGoodSectorAsksNoOther() {
        Rig r = small("READ: when it is good, its first eleven bytes");
        r.damage(0, 0, 1, true).damage(1, 0, 1, true).damage(3, 0, 1, true).damage(48, 0, 1, true).holds(0, 1, 5, 6);
        // A good sector is believed, even when parity tells otherwise.
        Rig s = small("READ: a good one that parity tells otherwise");
        s.relay(2, Rig.row(0, 2, 2, 5, 6), Rig.row(0, 2, 2, 7, 6)).holds(0, 1, 7, 6);
    }

    private static void readingRestoresFromFourGoodOnes() {
        for (int place = 0; place < 12; place++) {
            small("READ: otherwise restored, place " + place).damage(2, place, 255, true).holds(0, 1, 5, 6);
        }
        // Parity of another file's bytes, good by its check, is believed: 0 2 2 5 6 ^ 0 0 0 2 becomes 0 2 2 7 6.
        Rig r = small("READ: restored by what the others are");
        r.relay(0, Rig.row(), Rig.row(0, 0, 0, 2)).damage(2, 10, 1, true).holds(0, 1, 7, 6);
        Rig other = small("READ: damage in another group does not matter");
        other.damage(2, 0, 1, true).damage(4, 0, 1, true).damage(49, 0, 1, true).holds(0, 1, 5, 6);
    }

    private static void readingFailsWithASecondBadOne() {
        for (int second : Rig.row(0, 1, 3, 48)) {
            Rig r = small("READ: otherwise reading FAILS, " + second + " is bad too");
            r.damage(2, 4, 1, true).damage(second, 11, 128, true).extract(0, 1, -2);
            r.damage(second, 11, 128, true).holds(0, 1, 5, 6);
        }
    }

    private static void restoredInReadingAlone() {
        Rig r = small("RESTORED, in reading alone");
        r.damage(2, 3, 255, true).damage(3, 0, 0, false).holds(0, 1, 5, 6).at(2, 3, 250).open(1).at(2, 3, 250);
        r.damage(1, 0, 1, true).extract(0, 1, -2).damage(2, 3, 255, true).open(1).at(1, 0, 82).extract(0, 1, 2);
    }
}
