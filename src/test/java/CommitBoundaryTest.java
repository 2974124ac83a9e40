/** The edges that "Terms" names of headers and committing, and promise 6's; a method for each sentence. */
final class CommitBoundaryTest {
    public static void main(String[] args) {
        theNumberAfter255Is0();
        numberNIsInSectorNModulo2();
        noFileIs0And0();
        sixTimes0();
        versionsFromTheIndexNow();
        versionsFromAnyTimeSinceOpening();
        versions1WhenNone();
        versionsInTheOrderOfAdding();
        theBlockInTheFirstPlace();
        aHoleThatIsTooSmall();
        noneThatBelongsToTheCommittedIndex();
        noneOfABlockOfAFileThatIsRemoved();
        theIndexOutsideOfTheNewBlock();
        noBlockWithoutAddedFiles();
        theLastPlace();
        fullWithoutAPlaceForTheBlock();
        fullWithoutAPlaceForTheIndex();
        fullWithMoreThan10Files();
        fullWithAVersionAbove255();
        fullWritesNothingAndChangesWaitOn();
        writtenInOrder();
        withoutFilesThereIsNoIndex();
        timeGrowsBelow127();
        timeStaysWhenNothingWaits();
        timeStaysWhenFull();
        howManyWritings();
        downWhenTheMachineStopsInIt();
        Rig.finish();
    }

    /** One laid file of name 0 whose block has the sectors told, its index in sector 2. */
    private static Rig laid(String name, int first, int sectors) {
        return new Rig(name).lay(1, 83, 65, 1, 2, 1).lay(2, 1, 0, 1, first, sectors, 0, 0, 1).open(1).number(1);
    }

    private static void theNumberAfter255Is0() {
        Rig r = new Rig("the next one after 255 is 0");
        r.lay(0, 83, 65, 254).open(0).number(254).put(0, 1, 1).commit(6).number(255).sector(1, 83, 65, 255, 3, 1);
        r.put(0, 1, 2).commit(8).number(0).sector(0, 83, 65, 0, 5, 2).open(2).number(0);
        r.remove(0, 1, true).commit(4).number(1).sector(1, 83, 65, 1, 3, 1).open(1).number(1);
    }

    private static void numberNIsInSectorNModulo2() {
        Rig r = new Rig("Header number n is in sector n % 2");
        r.put(0, 1, 1).commit(6).sector(0).at(1, 2, 1).remove(0, 1, true).commit(2).at(0, 2, 2).at(1, 2, 1);
        r.put(0, 1, 1).commit(6).at(0, 2, 2).at(1, 2, 3).remove(0, 2, true).commit(2).at(0, 2, 4).at(1, 2, 3);
        // Also when the latest one stood in the other sector.
        Rig s = new Rig("the latest header in the wrong sector").lay(0, 83, 65, 7).open(0).number(7).put(0, 1, 1).commit(6);
        s.number(8).sector(0, 83, 65, 8, 3, 1).sector(1);
    }

    private static void noFileIs0And0() {
        Rig r = new Rig("0 and 0: there is no file");
        r.put(0, 1, 1).commit(6).remove(0, 1, true).commit(2).sector(0, 83, 65, 2, 0, 0).open(0).number(2).files(0);
        // Also behind commits that had an index.
        r.put(0, 1, 1).commit(6).put(0, 1, 2).commit(8).put(0, 1, 3).commit(8).remove(0, 1, true).remove(0, 2, true).remove(0, 3, true);
        r.commit(2).sector(0, 83, 65, 6, 0, 0).open(0).number(6);
    }

    private static void sixTimes0() {
        Rig r = new Rig("and six times 0");
        r.lay(1, 83, 65, 255, 0, 0, 6, 5, 4, 3, 2, 1).lay(0, 1, 2, 3, 4, 5, 6, 7, 8, 9, 10, 11).open(0).number(255);
        r.put(0, 1, 1).commit(6).sector(0, 83, 65, 0, 3, 1).put(0, 1, 1).commit(8).sector(1, 83, 65, 1, 5, 2);
        // The index that is written before it, of a file that begins at 2 and of two more, does not show through.
        Rig s = new Rig("six times 0 behind an index").put(5, 1, 8, 9).put(1, 2, 7).put(2, 3, 6).commit(8).at(3, 5, 2);
        s.sector(1, 83, 65, 1, 3, 2).remove(1, 1, true).remove(2, 1, true).remove(5, 1, true).commit(2).sector(0, 83, 65, 2, 0, 0);
    }

    private static void versionsFromTheIndexNow() {
        Rig r = new Rig("one above the greatest that their name has in the index now");
        r.lay(1, 83, 65, 1, 2, 2).lay(2, 2, 4, 9, 40, 1, 0, 0, 1, 4, 77, 40).lay(3, 1, 0, 0, 1).open(2);
        r.add(4, 1).add(3, 2).commit(10).files(4).file(0, 0, 3).file(0, 1, 1).file(3, 0, 4).file(3, 1, 78);
    }

    private static void versionsFromAnyTimeSinceOpening() {
        Rig r = new Rig("or had at any time since the archive was opened");
        r.add(4, 1).add(4, 2).add(4, 3).commit(8).remove(4, 3, true).remove(4, 2, true).commit(4);
        r.add(4, 1).commit(8).file(1, 1, 4).remove(4, 4, true).remove(4, 1, true).commit(2).files(0);
        r.add(4, 1).commit(6).file(0, 1, 5);
        // Opened anew, only what is in the index then counts.
        r.remove(4, 5, true).commit(2).open(0).add(4, 1).commit(6).file(0, 1, 1);
        // A file that is removed in the same commit still counts.
        r.remove(4, 1, true).add(4, 1).commit(6).file(0, 1, 2);
        // Versions of a commit that stopped before its header do not.
        r.add(4, 1).add(4, 2).limit(3, true).commit(-9).open(1).add(4, 1).commit(8).file(1, 1, 3);
    }

    private static void versions1WhenNone() {
        Rig r = new Rig("(1 when none");
        r.add(0, 1).add(7, 2).commit(8).file(0, 1, 1).file(1, 1, 1).add(3, 1).commit(8).file(1, 0, 3).file(1, 1, 1);
    }

    private static void versionsInTheOrderOfAdding() {
        Rig r = new Rig("those of one name in the order of adding)");
        r.put(5, 1, 10).put(2, 2, 20).put(5, 3, 30).put(5, 4, 40).commit(10);
        r.holds(5, 1, 10).holds(2, 1, 20).holds(5, 2, 30).holds(5, 3, 40);
    }

    private static void theBlockInTheFirstPlace() {
        Rig r = new Rig("the first place (from sector 2 on)");
        r.put(0, 1, 1).commit(6).file(0, 4, 2).sector(0).sector(2, 0, 1, 1, 1);
        // 3 was the first index: free again, it is the first place.
        r.put(0, 1, 2).commit(8).file(1, 4, 4).put(0, 1, 3).commit(8).file(2, 4, 3);
    }

    private static void aHoleThatIsTooSmall() {
        // Sectors 3 to 5 are free, 6 is a block: three sectors fit just there, four go behind it.
        int[] many = {3, 99, 14, 201, 77, 160, 8, 255, 31, 120, 66, 180, 92, 17, 230, 5, 141, 60, 212, 28, 111, 190, 47, 84};
        Rig r = laid("as many sectors one after the other as it needs: 3", 6, 1);
        r.put(1, 1, many).commit(12).file(1, 5, 3).file(1, 4, 3).sector(0, 83, 65, 2, 7, 2);
        Rig s = laid("as many sectors one after the other as it needs: 4", 6, 1);
        s.put(1, 1, many).put(1, 2, 250, 133, 171, 9, 199, 38, 72).commit(14).file(1, 5, 4).file(1, 4, 7);
        // The index of three files then takes two of the three.
        s.sector(0, 83, 65, 2, 3, 2);
    }

    private static void noneThatBelongsToTheCommittedIndex() {
        Rig r = new Rig("none of which belongs to the index as committed");
        r.add(0, 1).add(0, 2).commit(8).sector(1, 83, 65, 1, 3, 2);
        // The index is to be replaced, but until then its sectors 3 and 4 are not touched.
        r.remove(0, 1, true).commit(4).sector(0, 83, 65, 2, 5, 1).at(3, 0, 2);
        // Now they are free: the block goes to 3, the index of two files to 6.
        r.add(1, 1).commit(8).file(1, 4, 3).sector(1, 83, 65, 3, 6, 2);
    }

    private static void noneOfABlockOfAFileThatIsRemoved() {
        Rig r = new Rig("or to a block of a file in it");
        r.put(0, 1, 1).commit(6).remove(0, 1, true).put(0, 1, 2).commit(6).file(0, 4, 4).sector(2, 0, 1, 1, 1).sector(0, 83, 65, 2, 5, 1);
        // Gone for good now: 2 and 3 are free.
        r.put(0, 1, 3).commit(8).file(1, 4, 2).sector(1, 83, 65, 3, 6, 2);
        // A block stays as long as one of its files does.
        Rig s = new Rig("a block of two files, one of which is removed");
        s.put(0, 1, 1).put(1, 2, 2).commit(8).remove(0, 1, true).commit(4).put(2, 1, 3).commit(8).file(1, 4, 3).holds(1, 1, 2);
    }

    private static void theIndexOutsideOfTheNewBlock() {
        // Three sectors are free before the laid block, 3 to 5: the block takes 3, the index 4 and 5.
        Rig r = laid("then, likewise, the index (also outside of the new block)", 6, 42);
        r.put(1, 1, 5).commit(8).file(1, 4, 3).sector(0, 83, 65, 2, 4, 2).sector(3, 0, 1, 1, 5).open(2).holds(1, 1, 5);
        // The index may come before the block, in a hole that is too small for that.
        Rig s = laid("the index before the new block", 4, 1);
        s.put(1, 1, 1, 50, 7, 200, 9, 90, 33, 128, 77).remove(0, 1, true).commit(8).file(0, 4, 5).sector(0, 83, 65, 2, 3, 1);
    }

    private static void noBlockWithoutAddedFiles() {
        Rig r = new Rig("When there are added files");
        r.add(0, 1).add(0, 2).commit(8).remove(0, 2, true).commit(4).sector(0, 83, 65, 2, 5, 1).sector(6).sector(7);
    }

    private static void theLastPlace() {
        Rig r = laid("a place that ends in sector 47", 3, 42);
        // 45, 46 and 47 are free: the block and the index of two files just fit.
        r.put(1, 1, 5).commit(8).file(1, 4, 45).sector(0, 83, 65, 2, 46, 2).at(46, 0, 2).open(2).holds(1, 1, 5);
    }

    private static void fullWithoutAPlaceForTheBlock() {
        Rig r = laid("FULL when there is no such place, for the block", 3, 45).put(1, 1, 5).commit(-4).files(1).drop(1);
        // Removals alone need none: 2 is taken by the index, and no file is left.
        r.remove(0, 1, true).commit(2).files(0).put(1, 1, 5).commit(6).file(0, 4, 2);
        // 46 and 47 would do for the index of two files, but not for a block of three sectors before it.
        Rig three = laid("FULL when there is no such place, for the block alone", 3, 43);
        three.put(1, 1, 3, 99, 14, 201, 77, 160, 8, 255, 31, 120, 66, 180, 92, 17, 230, 5, 141, 60, 212, 28).commit(-4).files(1).drop(1);
        // Two sectors in two holes are no place for a block of two.
        Rig s = new Rig("FULL when there is no such place, of holes");
        s.lay(1, 83, 65, 1, 2, 2).lay(2, 2, 0, 1, 5, 41, 0, 0, 1, 0, 2, 47).lay(3, 1, 0, 0, 1).open(2);
        s.put(1, 1, 1, 50, 7, 200, 9, 90, 33, 128, 77).commit(-4).drop(1).remove(0, 1, true).remove(0, 2, true);
        s.put(1, 1, 1, 50, 7, 200, 9, 90, 33, 128).commit(6).file(0, 4, 4).sector(0, 83, 65, 2, 46, 1);
    }

    private static void fullWithoutAPlaceForTheIndex() {
        Rig r = laid("FULL when there is no such place, for the index", 3, 43).put(1, 1, 5).commit(-4).files(1).drop(1);
        // One sector of index still fits.
        r.remove(0, 1, true).put(1, 1, 5).commit(6).file(0, 4, 46).sector(0, 83, 65, 2, 47, 1);
        // Removals alone may lack a place for the index as well.
        Rig s = new Rig("FULL when there is no such place, for removals");
        s.lay(1, 83, 65, 1, 2, 2).lay(2, 2, 0, 1, 4, 44, 0, 0, 1, 0, 2, 4).lay(3, 1, 0, 0, 1).open(2);
        s.remove(0, 1, true).commit(-4).files(2).drop(1).remove(0, 1, true).remove(0, 2, true).commit(2).files(0);
    }

    private static Rig eightFiles(String name) {
        return new Rig(name).add(1, 1).add(1, 2).add(1, 3).add(1, 4).commit(10).add(2, 1).add(2, 2).add(2, 3).add(2, 4).commit(16);
    }

    private static void fullWithMoreThan10Files() {
        eightFiles("10 files").add(3, 1).add(3, 2).commit(18).files(10).add(3, 1).commit(-4).files(10);
        eightFiles("11 files").add(3, 1).add(3, 2).add(3, 3).commit(-4).files(8);
        eightFiles("12 files less 2").add(3, 1).add(3, 2).add(3, 3).add(3, 4).remove(1, 1, true).commit(-4)
                .remove(1, 2, true).commit(18).files(10).number(3);
    }

    private static void fullWithAVersionAbove255() {
        Rig r = new Rig("or a version above 255");
        r.lay(1, 83, 65, 1, 2, 1).lay(2, 1, 6, 253, 40, 1, 0, 0, 1).open(1);
        r.add(6, 1).add(6, 2).add(6, 3).commit(-4).drop(3).add(6, 1).add(6, 2).commit(8).file(2, 1, 255);
        r.add(6, 1).commit(-4).remove(6, 255, true).commit(-4).files(3).drop(2);
        // Other names go on; a removed 255 still counts until the archive is opened.
        r.add(5, 1).commit(10).file(0, 0, 5).remove(6, 255, true).commit(6).add(6, 1).commit(-4).open(3);
        r.add(6, 1).commit(10).file(3, 1, 255);
    }

    private static void fullWritesNothingAndChangesWaitOn() {
        Rig r = eightFiles("nothing is written, and the changes wait on");
        r.put(3, 1, 1).put(3, 2, 2).put(3, 3, 3).limit(0, true).commit(-4).down(false).number(2).commit(-4).down(false);
        r.at(0, 2, 2).at(1, 2, 1).files(8).remove(1, 1, true).limit(18, true).commit(18).down(false).number(3).files(10);
        r.holds(3, 1, 1).holds(3, 2, 2).holds(3, 3, 3).drop(0);
    }

    private static void writtenInOrder() {
        // A block in 2 and 3, the index in 4, the header in 1: sector and parity in turn.
        int[] raw = {3, 99, 14, 201, 77, 160, 8, 255, 31, 120, 66, 180};
        int[] order = {2, 48, 3, 48, 4, 49, 1, 48};
        for (int n = 0; n <= 8; n++) {
            Rig r = new Rig("the sectors of the block are written, in order, those of the index, and the header: " + n);
            r.put(1, 1, raw).limit(n, true).commit(n < 8 ? -9 : 8);
            for (int s : Rig.row(1, 2, 3, 4, 49)) {
                boolean written = false;
                for (int i = 0; i < n; i++) {
                    written |= order[i] == s;
                }
                r.at(s, 0, !written ? 0 : s == 1 ? 83 : s == 3 ? 31 : s == 2 ? 0 : 1);
                r.at(s, 1, !written ? 0 : s == 1 ? 65 : s == 3 ? 120 : s == 2 ? 12 : 1);
            }
            r.at(48, 1, n < 2 ? 0 : n < 4 ? 12 : n < 8 ? 12 ^ 120 : 12 ^ 120 ^ 65).at(48, 0, n < 4 ? 0 : n < 8 ? 31 : 31 ^ 83);
            r.open(n < 7 ? 0 : 1);
        }
    }

    private static void withoutFilesThereIsNoIndex() {
        Rig r = new Rig("(Without files there is no index to be written.)");
        r.put(0, 1, 1).commit(6).remove(0, 1, true).limit(2, true).commit(2).down(false).sector(4).sector(49);
        r.put(0, 1, 2).commit(-9).open(0);
    }

    private static void timeGrowsBelow127() {
        for (int start = 124; start < 130; start++) {
            Rig r = new Rig("The time grows by 1 (when it is below 127), from " + start);
            r.lay(1, 83, 65, 1, 2, 1).lay(2, 1, 0, 1, 40, 1, 0, 0, start).open(1).file(0, 3, start);
            int time = start;
            for (int k = 1; k < 5; k++) {
                time = time < 127 ? time + 1 : time;
                int indexSectors = (1 + 7 * (k + 1) + 10) / 11;
                r.add(k, 1).commit(2 * (indexSectors + 2)).file(k, 3, time);
            }
        }
        // A run from the first: a commit of a removal and a file, 126 times and twice more.
        Rig r = new Rig("The time grows by 1 up to 127").add(0, 1).commit(6).file(0, 3, 1);
        for (int time = 2; time <= 129; time++) {
            r.remove(0, time - 1, true).add(0, 1).commit(6);
            if (time > 125) {
                r.file(0, 3, Math.min(time, 127)).file(0, 1, time);
            }
        }
        r.number(129);
    }

    private static void timeStaysWhenNothingWaits() {
        Rig r = new Rig("0 (the time stays) when nothing waits");
        r.commit(0).number(0).write(1, 1, true).commit(0).add(0, 1).drop(1).limit(0, true).commit(0).down(false).limit(200, true);
        r.add(0, 1).commit(6).file(0, 3, 1).commit(0).commit(0).number(1).remove(0, 1, true).drop(1).commit(0);
        r.add(0, 1).commit(8).file(1, 3, 2);
    }

    private static void timeStaysWhenFull() {
        Rig r = eightFiles("FULL (the time stays)");
        r.add(0, 1).add(0, 2).add(0, 3).commit(-4).commit(-4).commit(-4).drop(3).add(0, 1).commit(16).file(0, 3, 3);
    }

    private static void howManyWritings() {
        // A block of one sector with an index of one to seven sectors, then a header alone.
        Rig r = new Rig("how many writings that took");
        r.add(0, 1).commit(6).add(0, 1).add(0, 2).add(0, 3).commit(10).add(0, 1).add(0, 2).add(0, 3).add(0, 4).commit(16);
        r.add(0, 1).add(0, 2).commit(18).files(10);
        for (int version = 1; version <= 10; version++) {
            r.remove(0, version, true);
        }
        r.commit(2).files(0);
    }

    private static void downWhenTheMachineStopsInIt() {
        for (int n = 0; n < 6; n++) {
            Rig r = new Rig("DOWN when the machine stops in it, after " + n).put(0, 1, 1).limit(n, true).commit(-9).down(true);
            r.commit(-9).open(n < 5 ? 0 : 1).drop(0).commit(0);
        }
        new Rig("not DOWN with just as many writings").put(0, 1, 1).limit(6, true).commit(6).down(false).files(1);
    }
}
