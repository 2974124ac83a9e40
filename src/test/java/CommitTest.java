/** Promise 6, with 9, 10 and 17: where a commit puts block, index and header, versions, times, and FULL. */
final class CommitTest {
    public static void main(String[] args) {
        laysOutSectors();
        nothingIsOverwritten();
        versionsGrow();
        timeGrows();
        timeEndsAt127();
        numberWraps();
        fullOfFiles();
        fullOfVersions();
        fullOfSectors();
        fileAnswers();
        Rig.finish();
    }

    private static void laysOutSectors() {
        Rig r = new Rig("layout");
        r.put(5, 1, 10, 200).put(1, 2, 7).commit(8).number(1);
        r.sector(2, 0, 3, 3, 10, 200, 7);
        r.sector(3, 2, 1, 1, 2, 1, 2, 1, 1, 5, 1, 2).sector(4, 1, 0, 2, 1);
        r.sector(1, 83, 65, 1, 3, 2).sector(0);
        r.sector(48, 83 ^ 0 ^ 2, 65 ^ 3 ^ 1, 1 ^ 3 ^ 1, 3 ^ 10 ^ 2, 2 ^ 200 ^ 1, 7 ^ 2, 1, 1, 5, 1, 2);
        r.sector(49, 1, 0, 2, 1);
        // Without files there is no index: the header alone is written, into the other slot.
        r.remove(5, 1, true).remove(1, 1, true).commit(2).number(2).files(0).sector(0, 83, 65, 2, 0, 0);
        r.sector(1, 83, 65, 1, 3, 2).open(0).number(2);
    }

    private static void nothingIsOverwritten() {
        Rig r = new Rig("places");
        r.put(0, 1, 1).commit(6).file(0, 4, 2);
        r.sector(1, 83, 65, 1, 3, 1);
        // Block in 4, behind the first block and index; the index of two files in 5 and 6.
        r.put(0, 1, 2).commit(8).file(1, 4, 4).sector(0, 83, 65, 2, 5, 2);
        // Sector 3 is free now: the block goes there; the index of 22 bytes needs 7 and 8.
        r.put(0, 1, 3).commit(8).file(2, 4, 3).sector(1, 83, 65, 3, 7, 2);
        // A removal is still on its sectors while it is committed: 2 stays taken, the index goes to 5.
        r.remove(0, 1, true).commit(6).sector(0, 83, 65, 4, 5, 2);
        // Now 2 is free, and so are 7 and 8.
        r.put(0, 1, 4).commit(8).file(2, 4, 2).file(2, 1, 4).sector(1, 83, 65, 5, 7, 2);
        r.holds(0, 2, 2).holds(0, 3, 3).holds(0, 4, 4);
    }

    private static void versionsGrow() {
        Rig r = new Rig("versions");
        r.put(3, 1, 1).put(3, 2, 2).put(2, 3, 3).commit(8);
        r.remove(3, 2, true).commit(6).put(3, 1, 4).commit(8);
        r.file(2, 0, 3).file(2, 1, 3).holds(3, 3, 4);
        // A version is not used again in the same commit that removes it.
        r.remove(3, 3, true).put(3, 1, 5).commit(8).file(2, 1, 4).holds(3, 4, 5);
        // After opening only the index counts.
        r.remove(3, 4, true).commit(6).open(2).put(3, 1, 6).commit(8).file(2, 1, 2).holds(3, 2, 6);
        r.remove(2, 1, true).commit(6).put(2, 1, 7).commit(8).file(0, 1, 2);
    }

    private static void timeGrows() {
        Rig r = new Rig("time");
        r.put(0, 1, 1).commit(6).file(0, 3, 1).commit(0).put(0, 1, 2).commit(8).file(1, 3, 2).file(0, 3, 1);
        // A removal takes a time too; after opening it is that of the files.
        r.remove(0, 2, true).commit(4).put(1, 1, 1).commit(8).file(1, 3, 4);
        r.remove(1, 1, true).commit(4).open(1).put(1, 1, 1).commit(8).file(1, 3, 2);
        r.remove(0, 1, true).remove(1, 1, true).commit(2).open(0).put(1, 1, 1).commit(6).file(0, 3, 1);
    }

    private static void timeEndsAt127() {
        for (int start = 125; start <= 255; start += start == 128 ? 127 : 1) {
            Rig r = new Rig("time from " + start);
            r.lay(1, 83, 65, 1, 2, 1).lay(2, 1, 0, 1, 3, 1, 0, 0, start).lay(3, 0, 0, 0).open(1).file(0, 3, start);
            int first = start < 127 ? start + 1 : start;
            int second = first < 127 ? first + 1 : first;
            r.put(1, 1, 1).commit(8).file(1, 3, first).put(2, 1, 1).commit(8).file(2, 3, second);
        }
    }

    private static void numberWraps() {
        Rig r = new Rig("number");
        r.lay(1, 83, 65, 255, 0, 0).open(0).number(255);
        r.put(0, 1, 1).commit(6).number(0).sector(0, 83, 65, 0, 3, 1).sector(1, 83, 65, 255, 0, 0).open(1).number(0);
        r.put(0, 1, 1).commit(8).number(1).open(2).number(1);
    }

    private static void fullOfFiles() {
        Rig r = new Rig("ten files");
        for (int i = 0; i < 2; i++) {
            r.put(i, 1, 1).put(i, 2, 2).put(i, 3, 3).put(i, 4, 4).commit(i == 0 ? 10 : 16);
        }
        r.put(7, 1, 1).put(7, 2, 2).put(7, 3, 3).commit(-4).files(8).number(2).commit(-4);
        // The changes wait on, and one removal makes room for the tenth file.
        r.remove(0, 1, true).commit(18).files(10).number(3).file(9, 0, 7).file(9, 1, 3).file(9, 3, 3).file(0, 1, 2);
        r.put(6, 1).commit(-4).drop(1).commit(0).remove(0, 2, true).commit(14).files(9);
        // FULL has not used a version up.
        r.put(6, 1, 5).commit(18).file(6, 0, 6).file(6, 1, 1).file(6, 3, 5);
    }

    private static void fullOfVersions() {
        Rig r = new Rig("versions end");
        r.lay(1, 83, 65, 1, 2, 1).lay(2, 1, 4, 254, 3, 1, 0, 0, 9).lay(3, 0, 0, 0).open(1).file(0, 1, 254);
        r.put(4, 1, 1).put(4, 2, 2).commit(-4).number(1).drop(2);
        r.put(4, 1, 3).commit(8).file(1, 1, 255).file(1, 3, 10);
        r.put(4, 1, 4).commit(-4).remove(4, 255, true).commit(-4).drop(2);
        r.remove(4, 255, true).commit(4).put(4, 1, 5).commit(-4).open(1).put(4, 1, 6).commit(8).holds(4, 255, 6);
    }

    /** Two laid blocks leave a few sectors; what needs more is refused without a writing. */
    private static void fullOfSectors() {
        Rig r = new Rig("sectors");
        r.lay(1, 83, 65, 1, 2, 1).lay(2, 1, 0, 1, 3, 43, 0, 0, 1).open(1);
        // 46 and 47 are free: a block of one sector fits, the index of two behind it does not.
        r.put(1, 1, 1).limit(0, true).commit(-4).down(false).drop(1).sector(46).sector(47);
        r.limit(200, true).remove(0, 1, true).put(1, 1, 1).commit(6).file(0, 4, 46).sector(0, 83, 65, 2, 47, 1);
        r.put(1, 1, 2).commit(8).file(1, 4, 2);

        Rig s = new Rig("no block");
        s.lay(1, 83, 65, 1, 2, 1).lay(2, 1, 0, 1, 3, 44, 0, 0, 1).open(1);
        s.put(1, 1, 1, 99, 3, 200, 77, 8, 160, 31, 255).commit(-4).drop(1);
        s.remove(0, 1, true).put(1, 1).commit(-4).drop(2).remove(0, 1, true).commit(2).files(0);
    }

    private static void fileAnswers() {
        Rig r = new Rig("file");
        r.put(6, 1, 1, 2, 3).put(2, 2, 4, 5).put(6, 3).put(0, 4, 6).commit(10).files(4);
        int[][] due = {{0, 1, 1, 1, 2, 1}, {2, 1, 2, 1, 2, 1}, {6, 1, 3, 1, 2, 1}, {6, 2, 0, 1, 2, 1}};
        for (int k = 0; k < 4; k++) {
            for (int w = 0; w < 6; w++) {
                r.file(k, w, due[k][w]);
            }
        }
        r.file(4, 0, -1).file(-1, 0, -1).file(0, 6, -1).file(0, -1, -1);
        r.file(Integer.MAX_VALUE, 0, -1).file(Integer.MIN_VALUE, 0, -1).file(0, Integer.MAX_VALUE, -1).file(0, Integer.MIN_VALUE, -1);
        r.sector(3, 4, 0, 1, 2, 1, 5, 1, 1, 2, 1, 2);
        r.sector(4, 1, 3, 2, 1, 6, 1, 2, 1, 0, 3, 1).sector(5, 6, 2, 2, 1, 5, 0, 1);
    }
}
