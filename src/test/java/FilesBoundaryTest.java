/** The edges that "Terms" names of files, the draft, changes, blocks and the index; a method for each sentence. */
final class FilesBoundaryTest {
    public static void main(String[] args) {
        names0To7();
        versionsFrom1();
        filesOf0To24Bytes();
        tenFilesOfAllNames();
        tenFilesOfOneName();
        theDraftHas24Bytes();
        fourAddedFiles();
        anyRemovals();
        aBlockHasAllAddedBytesInOrder();
        theLargestBlock();
        theIndexByNameThenByVersion();
        blocksFillTheirLastSectorWith0();
        Rig.finish();
    }

    private static void names0To7() {
        Rig r = new Rig("a NAME 0 .. 7");
        r.add(-1, -1).add(8, -1).add(Integer.MIN_VALUE, -1).add(Integer.MAX_VALUE, -1).add(256, -1).drop(0);
        r.add(0, 1).add(7, 2).commit(8).files(2).file(0, 0, 0).file(1, 0, 7);
        r.extract(-1, 1, -1).extract(8, 1, -1).extract(256, 1, -1).extract(0, 1, 0).extract(7, 1, 0);
        r.remove(-1, 1, false).remove(8, 1, false).remove(256, 1, false).remove(0, 1, true).remove(7, 1, true);
        for (int name = 0; name < 8; name++) {
            new Rig("NAME " + name).put(name, 1, name).commit(6).file(0, 0, name).file(0, 1, 1).holds(name, 1, name);
        }
    }

    private static void versionsFrom1() {
        Rig r = new Rig("a VERSION 1, 2, ..");
        r.put(3, 1, 1).put(3, 2, 2).commit(8).file(0, 1, 1).file(1, 1, 2);
        r.extract(3, 0, -1).extract(3, 3, -1).extract(3, -1, -1).extract(3, 257, -1).extract(3, Integer.MAX_VALUE, -1);
        r.extract(3, Integer.MIN_VALUE, -1).remove(3, 0, false).remove(3, 3, false).remove(3, -1, false).remove(3, 257, false);
    }

    private static void filesOf0To24Bytes() {
        Rig r = new Rig("0 to 24 bytes");
        int[] long24 = new int[24];
        int[] long23 = new int[23];
        for (int i = 0; i < 24; i++) {
            long24[i] = i * i & 255;
            long23[Math.min(i, 22)] = 255 - i;
        }
        r.put(0, 1).put(0, 2, 200).put(0, 3, long23).put(0, 4, long24).write(1, 1, true).commit(16);
        r.file(0, 2, 0).file(1, 2, 1).file(2, 2, 23).file(3, 2, 24);
        r.holds(0, 1).holds(0, 2, 200).holds(0, 3, long23).holds(0, 4, long24);
    }

    private static void tenFilesOfAllNames() {
        Rig r = new Rig("at most 10 files (of all names and versions together)");
        r.add(0, 1).add(1, 2).add(2, 3).add(3, 4).commit(10).add(4, 1).add(5, 2).add(6, 3).add(7, 4).commit(16).files(8);
        r.add(0, 1).add(1, 2).add(2, 3).commit(-4).files(8).drop(3).add(0, 1).add(1, 2).commit(18).files(10);
        r.add(7, 1).commit(-4).files(10);
        // What is removed in the same commit makes room.
        r.remove(3, 1, true).commit(18).files(10).file(9, 0, 7).file(9, 1, 2).file(10, 0, -1);
    }

    private static void tenFilesOfOneName() {
        Rig r = new Rig("10 files of one name");
        r.add(5, 1).add(5, 2).add(5, 3).add(5, 4).commit(10).add(5, 1).add(5, 2).add(5, 3).add(5, 4).commit(16);
        r.add(5, 1).add(5, 2).add(5, 3).commit(-4).files(8).drop(3).add(5, 1).add(5, 2).commit(18).files(10).file(9, 1, 10);
        r.add(5, 1).commit(-4).file(9, 1, 10).file(10, 1, -1);
    }

    private static void theDraftHas24Bytes() {
        Rig r = new Rig("The DRAFT is up to 24 bytes");
        r.write(8, 0, true).write(8, 0, true).write(8, 0, true).write(1, 0, false).write(8, 0, false).add(0, 1);
        Rig s = new Rig("The DRAFT with one byte left");
        s.write(8, 0, true).write(8, 0, true).write(7, 0, true).write(2, 0, false).write(8, 0, false).write(1, 9, true);
        s.write(1, 9, false).add(0, 1).commit(6).extract(0, 1, 24).extracted(22, 0).extracted(23, 9);
        for (int left = 1; left <= 8; left++) {
            Rig t = new Rig("The DRAFT with room for " + left);
            t.write(8, 0, true).write(8, 0, true);
            if (left < 8) {
                t.write(8 - left, 0, true);
            }
            for (int n = 8; n > left; n--) {
                t.write(n, -1, false);
            }
            t.write(left, -1, true).write(1, -1, false).add(0, 1).commit(6).extract(0, 1, 24);
            t.extracted(23 - left, 0).extracted(24 - left, 255).extracted(23, 255);
        }
    }

    private static void fourAddedFiles() {
        Rig r = new Rig("at most 4 ADDED files");
        r.add(0, 1).add(1, 2).add(2, 3).write(1, 5, true).add(3, 4).write(1, 6, true).add(4, -4).add(0, -4).drop(4);
        // The draft stayed.
        r.add(4, 1).commit(6).holds(4, 1, 6);
        r.add(0, 1).add(1, 2).add(2, 3).add(3, 4).add(4, -4).commit(12).add(4, 1);
    }

    private static void anyRemovals() {
        Rig r = new Rig("and any removals");
        for (int i = 0; i < 3; i++) {
            for (int k = 0; k < (i < 2 ? 4 : 2); k++) {
                r.add(i, k + 1);
            }
            r.commit(i == 0 ? 10 : i == 1 ? 16 : 18);
        }
        for (int i = 0; i < 3; i++) {
            for (int k = 0; k < (i < 2 ? 4 : 2); k++) {
                r.remove(i, k + 1, true).remove(i, k + 1, false);
            }
        }
        r.drop(10).drop(0);
        for (int k = 0; k < 10; k++) {
            r.remove(k / 4, k % 4 + 1, true);
        }
        r.add(7, 1).add(7, 2).add(7, 3).add(7, 4).drop(14);
        for (int k = 0; k < 10; k++) {
            r.remove(k / 4, k % 4 + 1, true);
        }
        r.add(7, 1).add(7, 2).add(7, 3).add(7, 4).commit(10).files(4).file(0, 0, 7).file(3, 1, 4);
        r.remove(7, 1, true).remove(7, 2, true).remove(7, 3, true).remove(7, 4, true).commit(2).files(0).file(0, 0, -1);
    }

    private static void aBlockHasAllAddedBytesInOrder() {
        Rig r = new Rig("all added files' bytes, one after the other in the order of adding");
        r.put(7, 1, 1).put(0, 2, 50).put(7, 3).put(3, 4, 9, 201).commit(10).sector(2, 0, 4, 4, 1, 50, 9, 201);
        // Name, version, first sector, sectors, where it begins, size, time.
        r.sector(3, 4, 0, 1, 2, 1, 1, 1, 1, 3, 1, 2).sector(4, 1, 2, 2, 1, 7, 1, 2, 1, 0, 1, 1);
        r.sector(5, 7, 2, 2, 1, 2, 0, 1).holds(7, 1, 1).holds(0, 1, 50).holds(7, 2).holds(3, 1, 9, 201);
    }

    private static void theLargestBlock() {
        Rig r = new Rig("a block of 96 bytes");
        int[][] raw = new int[4][24];
        for (int i = 0; i < 96; i++) {
            raw[i / 24][i % 24] = i * i * 7 + i * 90 + 13 * (i / 16) & 255;
        }
        for (int i = 0; i < 4; i++) {
            r.put(i, i + 1, raw[i]);
        }
        // 99 bytes stored are nine sectors, with no byte left; the index is three.
        r.commit(26).file(0, 5, 9).at(2, 0, 0).at(2, 1, 96).at(2, 2, 96).at(2, 3, raw[0][0]).at(10, 10, raw[3][23]);
        for (int i = 0; i < 4; i++) {
            r.holds(i, 1, raw[i]);
        }
    }

    private static void theIndexByNameThenByVersion() {
        Rig r = new Rig("for each (by name, then by version)");
        r.add(6, 1).add(2, 2).add(6, 3).commit(8).add(4, 1).add(2, 2).add(7, 3).add(0, 4).commit(14);
        int[][] due = {{0, 1}, {2, 1}, {2, 2}, {4, 1}, {6, 1}, {6, 2}, {7, 1}};
        for (int k = 0; k < 7; k++) {
            r.file(k, 0, due[k][0]).file(k, 1, due[k][1]);
        }
        r.open(7);
        for (int k = 0; k < 7; k++) {
            r.file(k, 0, due[k][0]).file(k, 1, due[k][1]);
        }
        r.file(7, 0, -1);
    }

    private static void blocksFillTheirLastSectorWith0() {
        Rig r = new Rig("of eleven bytes each (the last one filled with 0)");
        int[] nines = {9, 9, 9, 9, 9, 9, 9, 9, 9, 9, 9};
        r.lay(0, nines).lay(1, nines).lay(2, nines).lay(3, nines).lay(4, nines).lay(5, nines);
        // Eleven bytes fill one sector, twelve need two.
        r.put(0, 1, 1, 50, 7, 200, 9, 90, 33, 128).commit(6).file(0, 5, 1).sector(2, 0, 8, 8, 1, 50, 7, 200, 9, 90, 33, 128);
        r.sector(3, 1, 0, 1, 2, 1, 0, 8, 1).sector(1, 83, 65, 1, 3, 1).sector(4, nines).sector(5, nines).sector(0, nines);
        r.put(0, 1, 1, 50, 7, 200, 9, 90, 33, 128, 77).commit(10).file(1, 5, 2);
        r.sector(4, 0, 9, 9, 1, 50, 7, 200, 9, 90, 33, 128).sector(5, 77).sector(0, 83, 65, 2, 6, 2);
        // An index of three files is 22 bytes, just two sectors.
        r.add(1, 1).commit(8).sector(1, 83, 65, 3, 8, 2).at(9, 10, 3);
    }
}
