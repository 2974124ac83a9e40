import java.util.Arrays;

/** The edges that "Terms" names of opening and of limits; a method for each sentence. */
final class OpenBoundaryTest {
    private static final int[] ENTRY = {1, 0, 1, 40, 1, 0, 0, 1};

    public static void main(String[] args) {
        takenWhenItsSectorCanBeRead();
        takenWhenItBeginsWith83And65();
        takenWhenItsIndexCanBeRead();
        noSectorsNoFiles();
        itsSectorsAreFrom2OnAndBelow48();
        oneToTenFiles();
        risingByNameAndVersion();
        asManyAsItsSectorsHaveRoomFor();
        aName0To7();
        aVersionAbove0();
        aSizeOfAtMost24();
        atLeastOneSectorFrom2OnAndBelow48();
        everyFileIsLookedAt();
        theLatestOfTwo();
        whenNoneIsTaken();
        theTimeIsTheGreatest();
        theWritingAfterTheLimitIsNotDone();
        soIsTheLimitGone();
        whileItIsDown();
        nothingThatWaitedIsLeft();
        Rig.finish();
    }

    /** Lays bytes into sectors one after the other. */
    private static Rig layAll(Rig r, int first, int... bytes) {
        for (int i = 0; 11 * i < bytes.length; i++) {
            r.lay(first + i, Arrays.copyOfRange(bytes, 11 * i, 11 * i + 11));
        }
        return r;
    }

    /** A header in sector 1 of an index that is laid from sector 4 on, so that headers have a group without it. */
    private static void index(String name, int files, int sectors, int... bytes) {
        Rig r = layAll(new Rig(name), 4, bytes).lay(1, 83, 65, 5, 4, sectors);
        r.open(files).number(files == 0 ? 0 : 5).files(files);
        // The same in the other slot.
        Rig s = layAll(new Rig(name + " (slot 0)"), 4, bytes).lay(0, 83, 65, 6, 4, sectors);
        s.open(files).number(files == 0 ? 0 : 6).files(files);
        // When it is not taken, an older one is.
        Rig t = layAll(new Rig(name + " (an older one)"), 4, bytes).lay(0, 83, 65, 6, 4, sectors).lay(1, 83, 65, 5).open(files);
        t.number(files == 0 ? 5 : 6);
    }

    private static void one(String name, boolean taken, int... entry) {
        index(name, taken ? 1 : 0, 1, Blocks.join(Rig.row(1), entry));
    }

    private static void takenWhenItsSectorCanBeRead() {
        Rig r = new Rig("its sector can be read").put(0, 1, 1).commit(6);
        r.damage(1, 2, 1, true).open(1).number(1).damage(0, 2, 1, true).open(0).number(0);
        r.damage(0, 2, 1, true).damage(48, 2, 1, true).open(0).number(0).damage(1, 2, 1, true).open(1).number(1);
    }

    private static void takenWhenItBeginsWith83And65() {
        int[][] wrong = {{82, 65}, {84, 65}, {83, 64}, {83, 66}, {65, 83}, {0, 65}, {83, 0}, {0, 0}};
        for (int[] pair : wrong) {
            Rig r = layAll(new Rig("begins with " + pair[0] + ", " + pair[1]), 4, ENTRY);
            r.lay(1, pair[0], pair[1], 5, 4, 1).lay(0, pair[0], pair[1], 6, 4, 1).open(0).number(0);
        }
        layAll(new Rig("begins with 83, 65"), 4, ENTRY).lay(1, 83, 65, 5, 4, 1).open(1).number(5);
    }

    private static void takenWhenItsIndexCanBeRead() {
        // The index is in 11 and 12, of two groups, so that one of both can fail.
        int[] two = {2, 3, 1, 40, 1, 0, 0, 1, 3, 2, 40, 1, 0, 24, 1};
        for (int s = 11; s <= 12; s++) {
            int parity = 48 + s / 4;
            Rig r = layAll(new Rig("its index can be read, sector " + s), 11, two).lay(1, 83, 65, 5, 11, 2).repair(0).open(2);
            r.damage(s, 0, 1, true).open(2).number(5).damage(parity, 0, 1, true).open(0).number(0);
            r.damage(s, 0, 1, true).open(2).number(5);
        }
    }

    private static void noSectorsNoFiles() {
        Rig r = new Rig("(0 sectors: no files)").lay(1, 83, 65, 5, 0, 0).open(0).number(5);
        r.put(0, 1, 1).commit(6).number(6).file(0, 4, 2);
        // Sector 4 is no index when there are 0 sectors of it.
        layAll(new Rig("0 sectors from 4 on"), 4, ENTRY).lay(1, 83, 65, 5, 4, 0).open(0).number(5);
    }

    private static void place(int first, int sectors, boolean taken) {
        Rig r = new Rig("its sectors are from 2 on and below 48: " + sectors + " from " + first);
        if (first >= 2 && first < 48) {
            r.lay(first, ENTRY);
        }
        if (first == 1) {
            // A header that is its own index would have 83 files; in sector 0 it may look at sector 1.
            r.lay(0, 83, 65, 6, 1, sectors).lay(1, ENTRY);
        } else {
            r.lay(0, 83, 65, 6, first, sectors);
        }
        r.open(taken ? 1 : 0).number(taken ? 6 : 0);
    }

    private static void itsSectorsAreFrom2OnAndBelow48() {
        place(2, 1, true);
        place(1, 1, false);
        place(1, 2, false);
        place(47, 1, true);
        place(47, 2, false);
        place(48, 1, false);
        place(46, 2, true);
        place(46, 3, false);
        place(2, 46, true);
        place(2, 47, false);
        place(2, 255, false);
        place(255, 1, false);
        place(59, 1, false);
        // A parity sector is no place for an index, even a good one with files.
        new Rig("an index in a parity sector").lay(52, ENTRY).lay(1, 83, 65, 5, 52, 1).open(0).number(0);
    }

    /** Files of rising names and versions without bytes. */
    private static int[] files(int told, int count) {
        int[] bytes = {told};
        for (int k = 0; k < count; k++) {
            bytes = Blocks.join(bytes, k / 2, 1 + k % 2, 40, 1, 0, 0, 1);
        }
        return bytes;
    }

    private static void oneToTenFiles() {
        index("it has 1 .. 10 files: 0", 0, 1, files(0, 1));
        index("it has 1 .. 10 files: 1", 1, 1, files(1, 1));
        index("it has 1 .. 10 files: 10", 10, 7, files(10, 10));
        index("it has 1 .. 10 files: 11", 0, 8, files(11, 11));
        index("it has 1 .. 10 files: 255", 0, 30, files(255, 10));
    }

    private static void two(String name, boolean taken, int nameOne, int versionOne, int nameTwo, int versionTwo) {
        index("rising by name and version: " + name, taken ? 2 : 0, 2,
                2, nameOne, versionOne, 40, 1, 0, 0, 1, nameTwo, versionTwo, 40, 1, 0, 0, 1);
    }

    private static void risingByNameAndVersion() {
        two("a version more", true, 3, 1, 3, 2);
        two("the same", false, 3, 1, 3, 1);
        two("a version less", false, 3, 2, 3, 1);
        two("a name more", true, 3, 1, 4, 1);
        two("a name more, a version less", true, 3, 255, 4, 1);
        two("a name less, a version more", false, 4, 1, 3, 2);
        two("a name less", false, 4, 1, 3, 1);
        index("rising by name and version: the last one falls", 0, 2, 3, 1, 1, 40, 1, 0, 0, 1, 2, 1, 40, 1, 0, 0, 1, 1, 2, 40, 1, 0, 0, 1);
    }

    private static void asManyAsItsSectorsHaveRoomFor() {
        // n files are 1 + 7 n bytes; three just fill two sectors.
        index("room for: 1 file in 1 sector", 1, 1, files(1, 1));
        index("room for: 2 files in 1 sector", 0, 1, files(2, 2));
        index("room for: 2 files in 2 sectors", 2, 2, files(2, 2));
        index("room for: 3 files in 2 sectors", 3, 2, files(3, 3));
        index("room for: 4 files in 2 sectors", 0, 2, files(4, 4));
        index("room for: 4 files in 3 sectors", 4, 3, files(4, 4));
        index("room for: 10 files in 6 sectors", 0, 6, files(10, 10));
        index("room for: 10 files in 7 sectors", 10, 7, files(10, 10));
        index("room for: 1 file in 40 sectors", 1, 40, files(1, 1));
        // What was read of a larger index before does not stand in for what is missing.
        for (int n : Rig.row(2, 4, 6, 10)) {
            int sectors = (1 + 7 * n + 10) / 11;
            Rig r = layAll(new Rig("room for: " + n + " files in a sector less"), 4, files(n, n)).lay(1, 83, 65, 5, 4, sectors).open(n);
            r.relay(1, Rig.row(83, 65, 5, 4, sectors), Rig.row(83, 65, 5, 4, sectors - 1)).open(0).number(0);
        }
    }

    private static void aName0To7() {
        one("a name 0", true, 0, 1, 40, 1, 0, 0, 1);
        one("a name 7", true, 7, 1, 40, 1, 0, 0, 1);
        one("a name 8", false, 8, 1, 40, 1, 0, 0, 1);
        one("a name 255", false, 255, 1, 40, 1, 0, 0, 1);
    }

    private static void aVersionAbove0() {
        one("a version 0", false, 0, 0, 40, 1, 0, 0, 1);
        one("a version 1", true, 0, 1, 40, 1, 0, 0, 1);
        one("a version 255", true, 0, 255, 40, 1, 0, 0, 1);
    }

    private static void aSizeOfAtMost24() {
        one("a size 0", true, 0, 1, 40, 1, 0, 0, 1);
        one("a size 24", true, 0, 1, 40, 1, 0, 24, 1);
        one("a size 25", false, 0, 1, 40, 1, 0, 25, 1);
        one("a size 255", false, 0, 1, 40, 1, 0, 255, 1);
        // Where it begins and its time are free.
        one("a begin and a time of 255", true, 0, 1, 40, 1, 255, 24, 255);
    }

    private static void atLeastOneSectorFrom2OnAndBelow48() {
        one("no sector", false, 0, 1, 40, 0, 0, 0, 1);
        one("one sector", true, 0, 1, 40, 1, 0, 0, 1);
        one("sector 1", false, 0, 1, 1, 1, 0, 0, 1);
        one("sector 0", false, 0, 1, 0, 1, 0, 0, 1);
        one("sectors 1 and 2", false, 0, 1, 1, 2, 0, 0, 1);
        one("sector 2", true, 0, 1, 2, 1, 0, 0, 1);
        one("sector 47", true, 0, 1, 47, 1, 0, 0, 1);
        one("sector 48", false, 0, 1, 48, 1, 0, 0, 1);
        one("sectors 47 and 48", false, 0, 1, 47, 2, 0, 0, 1);
        one("sectors 2 to 47", true, 0, 1, 2, 46, 0, 0, 1);
        one("sectors 2 to 48", false, 0, 1, 2, 47, 0, 0, 1);
        one("sectors 255", false, 0, 1, 255, 255, 0, 0, 1);
        one("255 sectors", false, 0, 1, 2, 255, 0, 0, 1);
    }

    private static void everyFileIsLookedAt() {
        int[][] wrong = {{2, 0, 40, 1, 0, 0, 1}, {8, 1, 40, 1, 0, 0, 1}, {2, 1, 40, 1, 0, 25, 1}, {2, 1, 40, 0, 0, 0, 1},
            {2, 1, 1, 1, 0, 0, 1}, {2, 1, 47, 2, 0, 0, 1}};
        for (int[] entry : wrong) {
            index("each with: the second of two " + Arrays.toString(entry), 0, 2, Blocks.join(Rig.row(2, 1, 1, 40, 1, 0, 0, 1), entry));
        }
    }

    private static void latest(int zero, int one, int want) {
        Rig r = new Rig("the latest of " + zero + " and " + one).lay(0, 83, 65, zero, 4, 1).lay(1, 83, 65, one);
        r.lay(4, ENTRY).open(want == zero ? 1 : 0).number(want);
    }

    private static void theLatestOfTwo() {
        latest(4, 5, 5);
        latest(6, 5, 6);
        latest(254, 255, 255);
        latest(0, 255, 0);
        latest(255, 0, 0);
        latest(0, 1, 1);
        // Otherwise that in sector 0, however the numbers are.
        latest(4, 6, 4);
        latest(4, 3, 4);
        latest(4, 2, 4);
        latest(8, 1, 8);
        latest(1, 8, 1);
        latest(0, 254, 0);
        latest(254, 0, 254);
        Rig same = new Rig("the latest of the same numbers").lay(0, 83, 65, 4, 4, 1).lay(1, 83, 65, 4).lay(4, ENTRY);
        same.open(1).number(4);
        // The next one counts only when it is taken.
        Rig r = new Rig("the next one is not taken").lay(0, 83, 65, 4).lay(1, 83, 65, 5, 4, 1).open(0).number(4).lay(4, ENTRY).open(1).number(5);
        r.files(1);
    }

    private static void whenNoneIsTaken() {
        Rig r = new Rig("when none is taken, the archive is empty, and the latest number is 0");
        r.put(0, 1, 1).commit(6).put(0, 1, 2).commit(8).number(2).damage(0, 0, 1, true).damage(1, 0, 1, true).open(0).number(0).files(0);
        r.file(0, 0, -1).extract(0, 1, -1).remove(0, 1, false);
        // The next header has number 1, the block the first place, the file version and time 1.
        r.put(0, 1, 3).commit(6).number(1).file(0, 1, 1).file(0, 3, 1).file(0, 4, 2).sector(1, 83, 65, 1, 3, 1);
    }

    private static void theTimeIsTheGreatest() {
        // The greatest stands first, in the middle, last.
        int[][] times = {{9, 3, 5}, {3, 9, 5}, {3, 5, 9}, {9, 9, 9}};
        for (int[] t : times) {
            Rig r = new Rig("The time is the greatest one of files in the index then, " + Arrays.toString(t));
            r.lay(1, 83, 65, 5, 4, 2).lay(4, 3, 0, 1, 40, 1, 0, 0, t[0], 1, 1, 40).lay(5, 1, 0, 0, t[1], 2, 1, 40, 1, 0, 0, t[2]);
            r.open(3).add(7, 1).commit(10).file(3, 3, 10);
        }
        Rig r = new Rig("0 without any").add(0, 1).commit(6).add(0, 1).commit(8).file(1, 3, 2);
        r.remove(0, 1, true).remove(0, 2, true).commit(2).open(0).add(0, 1).commit(6).file(0, 3, 1);
    }

    private static void theWritingAfterTheLimitIsNotDone() {
        Rig r = new Rig("the n + 1-th writing from then on is not done: 0").damage(8, 0, 1, true).limit(0, true).repair(-9).down(true);
        r.at(8, 0, 1);
        Rig s = new Rig("the n + 1-th writing from then on is not done: 1").damage(8, 0, 1, true).damage(12, 0, 1, true);
        s.limit(1, true).repair(-9).down(true).at(8, 0, 0).at(12, 0, 1);
        for (int n = 199; n <= 200; n++) {
            Rig t = new Rig("the n + 1-th writing from then on is not done: " + n).limit(n, true).add(0, 1).commit(6);
            for (int version = 1; version < 33; version++) {
                t.remove(0, version, true).add(0, 1).commit(6);
            }
            // 33 commits of six writings are 198.
            t.remove(0, 33, true).commit(n == 200 ? 2 : -9).down(n == 199);
            if (n == 200) {
                t.add(0, 1).commit(-9).down(true).open(0).number(34);
            }
        }
    }

    private static void soIsTheLimitGone() {
        Rig r = new Rig("and so is the limit gone").damage(8, 0, 1, true).limit(0, true).repair(-9).open(0).repair(0).down(false);
        r.add(0, 1).commit(6).down(false);
    }

    private static void whileItIsDown() {
        Rig r = new Rig("While it is down every call but open, down, damage and at answers -9 (or false)");
        r.put(0, 1, 7).commit(6).holds(0, 1, 7).put(1, 1, 8).remove(0, 1, true).write(1, 9, true).limit(2, true).commit(-9);
        r.down(true).write(1, 1, false).write(0, 1, false).add(0, -9).add(8, -9).remove(0, 1, false).drop(-9).commit(-9);
        r.extract(0, 1, -9).extract(9, 9, -9).extracted(0, -9).extracted(-1, -9).files(-9).file(0, 0, -9).file(99, 9, -9);
        r.repair(-9).limit(0, false).limit(200, false).limit(201, false).number(-9);
        r.damage(30, 0, 5, true).at(30, 0, 5).damage(60, 0, 5, false).at(60, 0, -1).down(true).open(1).down(false);
        // A limit that was refused is none.
        r.put(2, 1, 6).commit(8).down(false);
    }

    private static void nothingThatWaitedIsLeft() {
        Rig r = new Rig("Nothing that waited, and no draft, is left after opening; what was extracted stays");
        r.put(0, 1, 7).commit(6).holds(0, 1, 7).put(1, 1, 8).remove(0, 1, true).write(1, 9, true).limit(2, true).commit(-9).open(1);
        r.drop(0).commit(0).extracted(0, 7).extracted(1, -1).add(3, 1).commit(8).holds(3, 1).remove(0, 1, true);
        Rig s = new Rig("after opening a machine that is not down").put(0, 1, 7).commit(6).holds(0, 1, 7);
        s.put(1, 1, 8).remove(0, 1, true).write(1, 9, true).open(1).drop(0).commit(0).extracted(0, 7).extracted(1, -1);
        s.add(3, 1).commit(8).holds(3, 1).remove(0, 1, true);
    }
}
