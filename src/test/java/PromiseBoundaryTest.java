/** The edges that the promises 1 to 5 and 7 to 17 name; a method for each sentence (promise 6 is in CommitBoundaryTest). */
final class PromiseBoundaryTest {
    private static final int LEAST = Integer.MIN_VALUE;
    private static final int MOST = Integer.MAX_VALUE;

    public static void main(String[] args) {
        promise1OpenedAtTime0();
        promise2LowestBytesFirst();
        promise2FalseWhenNIsNotSo();
        promise2FalseWhenThereIsNoRoom();
        promise3HowManyWait();
        promise3TheDraftIsEmptyThen();
        promise3NoneWhenThereIsNoSuchName();
        promise3FullWhen4Wait();
        promise4FalseWhenNotInTheIndex();
        promise4FalseWhenItIsToBeAlready();
        promise5HowManyThereWere();
        promise7HowManyTheyAre();
        promise7NoneWhenThereIsNoSuchFile();
        promise7DamagedWhenASectorCannotBeRead();
        promise7WhatWasExtractedStays();
        promise8NoneWhenThereIsNone();
        promise9HowManyFiles();
        promise10NoneWhenThereIsNoFile();
        promise10NoneWhenWIsNotSo();
        promise11OneNotGoodIsWrittenAnew();
        promise11ParityThatIsNotWhatAWritingMakesIt();
        promise11OtherwiseNothing();
        promise11HowManyStay();
        promise11DownWhenTheMachineStopsInIt();
        promise12FalseWhenNIsNotSo();
        promise12FromNowOn();
        promise13WhetherItIsDownOrNot();
        promise13ALimitThatIsSetStays();
        promise14WhetherItIsDown();
        promise15FalseWhenThereIsNoSuchPlace();
        promise15FalseWhenBitsIsNotSo();
        promise16NoneWhenThereIsNone();
        promise17TheLatestNumber();
        Rig.finish();
    }

    private static void promise1OpenedAtTime0() {
        Rig r = new Rig("1: the image as it is at first, opened, time 0");
        r.down(false).files(0).number(0).file(0, 0, -1).extract(0, 1, -1).extracted(0, -1).remove(0, 1, false).drop(0).commit(0);
        r.add(0, 1).commit(6).number(1).file(0, 1, 1).file(0, 2, 0).file(0, 3, 1).file(0, 4, 2).file(0, 5, 1);
        new Rig("1: no limit is set").limit(0, true).repair(0).down(false);
        new Rig("1: opening it anew changes nothing").open(0).number(0).add(0, 1).commit(6).number(1).file(0, 3, 1);
    }

    private static void promise2LowestBytesFirst() {
        for (int n = 1; n <= 8; n++) {
            Rig r = new Rig("2: the lowest " + n + " bytes of w, the lowest first").write(n, 0xF8A7060504030201L, true).add(0, 1).commit(6);
            r.extract(0, 1, n);
            for (int i = 0; i < n; i++) {
                r.extracted(i, i == 7 ? 0xF8 : i == 6 ? 0xA7 : i + 1);
            }
            r.extracted(n, -1);
        }
        Rig r = new Rig("2: appends").write(2, 0x0201, true).write(1, 0x03, true).write(3, 0x060504, true).add(0, 1).commit(6);
        r.holds(0, 1, 1, 2, 3, 4, 5, 6);
    }

    private static void promise2FalseWhenNIsNotSo() {
        Rig r = new Rig("2: False, changing nothing, when n is not so");
        r.write(1, 7, true).write(0, 1, false).write(9, 1, false).write(-1, 1, false).write(LEAST, 1, false).write(MOST, 1, false);
        r.write(16, 1, false).write(24, 1, false).write(257, 1, false).add(0, 1).commit(6).holds(0, 1, 7);
    }

    private static void promise2FalseWhenThereIsNoRoom() {
        Rig r = new Rig("2: False, changing nothing, when there is no room for them");
        r.write(8, 0, true).write(8, 0, true).write(5, 0, true).write(4, -1, false).write(8, -1, false).write(3, 0x030201, true);
        r.write(1, -1, false).write(8, -1, false).add(0, 1).write(8, 5, true).add(1, 2).commit(10);
        r.extract(0, 1, 24).extracted(20, 0).extracted(21, 1).extracted(23, 3).extract(1, 1, 8).extracted(0, 5);
    }

    private static void promise3HowManyWait() {
        Rig r = new Rig("3: how many added files wait");
        r.add(0, 1).add(0, 2).drop(2).add(0, 1).add(1, 2).add(2, 3).add(3, 4).commit(10).add(0, 1).remove(0, 1, true).add(0, 2);
    }

    private static void promise3TheDraftIsEmptyThen() {
        Rig r = new Rig("3: (it is empty then)");
        r.write(8, -1, true).write(8, -1, true).write(8, -1, true).add(0, 1).write(8, 1, true).add(0, 2).add(0, 3).commit(8);
        r.extract(0, 1, 24).extract(0, 2, 8).extracted(0, 1).extracted(1, 0).extract(0, 3, 0);
    }

    private static void promise3NoneWhenThereIsNoSuchName() {
        Rig r = new Rig("3: NONE when there is no such name").write(1, 5, true);
        r.add(-1, -1).add(8, -1).add(LEAST, -1).add(MOST, -1).drop(0).add(7, 1).commit(6).holds(7, 1, 5);
    }

    private static void promise3FullWhen4Wait() {
        Rig r = new Rig("3: FULL when 4 wait (the draft stays then)");
        r.add(0, 1).add(0, 2).add(0, 3).write(1, 5, true).add(0, 4).write(1, 6, true).add(1, -4).write(1, 7, true).add(1, -4);
        r.commit(10).files(4).holds(0, 4, 5).add(1, 1).commit(12).holds(1, 1, 6, 7);
    }

    private static void promise4FalseWhenNotInTheIndex() {
        Rig r = new Rig("4: false when it is not in the index").add(3, 1).remove(3, 1, false).drop(1).add(3, 1).commit(6);
        r.remove(3, 0, false).remove(3, 2, false).remove(2, 1, false).remove(4, 1, false).remove(-1, 1, false).remove(8, 1, false);
        r.remove(LEAST, 1, false).remove(MOST, 1, false).remove(3, LEAST, false).remove(3, MOST, false).remove(259, 1, false);
        r.remove(3, 257, false).remove(1, 3, false).drop(0).remove(3, 1, true).commit(2).remove(3, 1, false);
    }

    private static void promise4FalseWhenItIsToBeAlready() {
        Rig r = new Rig("4: or is to be already").add(3, 1).add(4, 2).commit(8);
        r.remove(3, 1, true).remove(3, 1, false).remove(4, 1, true).remove(4, 1, false).remove(3, 1, false).files(2).drop(2);
        r.remove(3, 1, true).remove(3, 1, false).open(2).remove(3, 1, true).commit(4).files(1).file(0, 0, 4);
    }

    private static void promise5HowManyThereWere() {
        Rig r = new Rig("5: how many there were").drop(0).write(1, 5, true).drop(0).add(0, 1).drop(1).drop(0).commit(0);
        r.add(0, 1).add(1, 2).commit(8).remove(0, 1, true).drop(1).drop(0).commit(0).files(2);
        r.remove(0, 1, true).remove(1, 1, true).add(2, 1).add(2, 2).add(2, 3).add(2, 4).drop(6).commit(0).files(2).number(1);
        new Rig("5: the draft is no change").write(1, 5, true).drop(0).add(0, 1).commit(6).holds(0, 1, 5);
    }

    private static void promise7HowManyTheyAre() {
        Rig r = new Rig("7: how many they are").put(0, 1).put(1, 2, 9).put(2, 3, 1, 2, 3, 4, 5, 6, 7, 8, 9, 10, 11, 12, 13, 14, 15, 16, 17, 18,
                19, 20, 21, 22, 23, 24).commit(8);
        r.extract(2, 1, 24).extracted(23, 24).extract(1, 1, 1).extracted(0, 9).extracted(1, -1).extracted(23, -1);
        r.extract(0, 1, 0).extracted(0, -1).extract(2, 1, 24).extracted(0, 1).extracted(23, 24);
    }

    private static void promise7NoneWhenThereIsNoSuchFile() {
        Rig r = new Rig("7: NONE when there is no such file").extract(0, 1, -1).put(3, 1, 5).extract(3, 1, -1).commit(6).extract(3, 1, 1);
        r.extract(3, 0, -1).extract(3, 2, -1).extract(2, 1, -1).extract(1, 3, -1).extract(LEAST, 1, -1).extract(MOST, 1, -1);
        r.extract(3, LEAST, -1).extract(3, MOST, -1).extract(3, 257, -1).extract(259, 1, -1);
        // What is to be removed is still there until it is committed.
        r.remove(3, 1, true).extract(3, 1, 1).commit(2).extract(3, 1, -1);
    }

    private static void promise7DamagedWhenASectorCannotBeRead() {
        int[] raw = {3, 99, 14, 201, 77, 160, 8, 255, 31, 120, 66, 180};
        for (int s = 2; s <= 3; s++) {
            Rig r = new Rig("7: DAMAGED when a sector of its block can't be read, " + s).put(0, 1, raw).commit(8);
            r.damage(s, 0, 1, true).extract(0, 1, 12).damage(0, 0, 1, true).extract(0, 1, -2);
            // Both files of a block are damaged by one sector of it; another block is not.
            r.damage(0, 0, 1, true).extract(0, 1, 12);
        }
        Rig r = new Rig("7: a sector that the file's own bytes are not in").put(0, 1, 3).put(1, 2, raw).commit(10);
        r.damage(3, 0, 1, true).damage(0, 0, 1, true).extract(0, 1, -2).extract(1, 1, -2);
        Rig s = new Rig("7: another block is whole").put(0, 1, raw).commit(8).put(1, 1, 5).commit(8);
        s.damage(3, 0, 1, true).damage(0, 0, 1, true).extract(0, 1, -2).holds(1, 1, 5);
    }

    private static void promise7WhatWasExtractedStays() {
        Rig r = new Rig("7: what was extracted stays then").put(0, 1, 5, 6).commit(6).put(1, 1, 7).commit(8).holds(0, 1, 5, 6);
        r.extract(1, 2, -1).extracted(0, 5).extracted(1, 6).extracted(2, -1);
        r.damage(4, 3, 1, true).damage(5, 3, 1, true).extract(1, 1, -2).extracted(0, 5).extracted(1, 6).extracted(2, -1);
        Rig s = new Rig("7: what was extracted stays when decoding fails").put(0, 1, 5, 6).commit(6).holds(0, 1, 5, 6);
        s.relay(2, Rig.row(0, 2, 2, 5, 6), Rig.row(0, 2, 1, 9, 6)).extract(0, 1, -2).extracted(0, 5).extracted(1, 6).extracted(2, -1);
    }

    private static void promise8NoneWhenThereIsNone() {
        Rig r = new Rig("8: NONE when there is none").extracted(0, -1).extracted(-1, -1).put(0, 1, 5, 6).commit(6).extracted(0, -1);
        r.extract(0, 1, 2).extracted(-1, -1).extracted(0, 5).extracted(1, 6).extracted(2, -1).extracted(23, -1).extracted(24, -1);
        r.extracted(LEAST, -1).extracted(MOST, -1).extracted(256, -1);
    }

    private static void promise9HowManyFiles() {
        Rig r = new Rig("9: how many files are in the index").files(0).add(0, 1).files(0).commit(6).files(1).remove(0, 1, true).files(1);
        r.add(0, 1).add(1, 2).files(1).commit(8).files(2).remove(0, 2, true).remove(1, 1, true).commit(2).files(0);
    }

    private static void promise10NoneWhenThereIsNoFile() {
        Rig r = new Rig("10: NONE when there is none").file(0, 0, -1).add(0, 1).add(1, 2).file(0, 0, -1).commit(8);
        r.file(0, 0, 0).file(1, 0, 1).file(2, 0, -1).file(-1, 0, -1).file(9, 0, -1).file(10, 0, -1).file(LEAST, 0, -1).file(MOST, 0, -1);
        r.remove(1, 1, true).commit(4).file(1, 0, -1).file(0, 0, 0);
    }

    private static void promise10NoneWhenWIsNotSo() {
        Rig r = new Rig("10: or w is not 0 .. 5").put(6, 1, 1).put(6, 2, 1, 50, 7, 200, 9, 90, 33, 128, 77).commit(10);
        int[] due = {6, 2, 9, 1, 2, 2};
        for (int w = 0; w < 6; w++) {
            r.file(1, w, due[w]);
        }
        r.file(1, -1, -1).file(1, 6, -1).file(1, 7, -1).file(1, LEAST, -1).file(1, MOST, -1).file(2, 6, -1);
    }

    private static void promise11OneNotGoodIsWrittenAnew() {
        for (int s : Rig.row(0, 1, 2, 3, 48)) {
            for (int place = 0; place < 12; place += 11) {
                Rig r = new Rig("11: it is written anew from the others, one writing, sector " + s).put(0, 1, 5).commit(6);
                int before = r.x.at(s, place);
                r.damage(s, place, 130, true).limit(1, true).repair(0).at(s, place, before).down(false).repair(0).down(false);
            }
        }
        // Data is written by the others alone: a parity that tells otherwise is believed, and so is data for parity.
        Rig r = new Rig("11: data by their ^ and its check").lay(50, 1, 2, 3).damage(9, 0, 9, true).repair(0).sector(9, 1, 2, 3).sector(50, 1, 2, 3);
        r.limit(0, true).repair(0).down(false);
        Rig p = new Rig("11: parity likewise").lay(9, 1, 2, 3).damage(50, 0, 9, true).limit(1, true).repair(0).sector(50, 1, 2, 3).sector(9, 1, 2, 3);
        p.repair(0).down(false);
    }

    private static void promise11ParityThatIsNotWhatAWritingMakesIt() {
        for (int g = 0; g < 12; g += 11) {
            Rig r = new Rig("11: when all are good, and the parity sector is not what a writing would make it, group " + g);
            r.lay(4 * g + 3, 1, 0, 0, 0, 0, 0, 0, 0, 0, 0, 255).limit(0, true).repair(-9).open(0).sector(48 + g);
            r.limit(1, true).repair(0).sector(48 + g, 1, 0, 0, 0, 0, 0, 0, 0, 0, 0, 255).repair(0).down(false);
            r.sector(4 * g + 3, 1, 0, 0, 0, 0, 0, 0, 0, 0, 0, 255);
        }
        Rig r = new Rig("11: a parity sector of its own").lay(59, 0, 0, 0, 0, 0, 0, 0, 0, 0, 0, 1).limit(1, true).repair(0).sector(59);
        r.repair(0).down(false);
    }

    private static void promise11OtherwiseNothing() {
        Rig r = new Rig("11: otherwise nothing, all are good").put(0, 1, 5).commit(6).limit(0, true).repair(0).down(false);
        r.sector(2, 0, 1, 1, 5);
        Rig s = new Rig("11: otherwise nothing, two are not good").lay(8, 1).damage(10, 1, 1, true).damage(11, 2, 1, true);
        s.limit(0, true).repair(2).down(false).at(10, 1, 1).at(11, 2, 1).sector(50).sector(8, 1);
    }

    private static void promise11HowManyStay() {
        Rig r = new Rig("11: how many sectors are not good that stay so").repair(0).damage(0, 0, 1, true).repair(0);
        r.damage(0, 0, 1, true).damage(1, 0, 1, true).repair(2).damage(2, 0, 1, true).repair(3).damage(3, 0, 1, true).repair(4);
        r.damage(48, 0, 1, true).repair(5).damage(44, 0, 1, true).repair(5).sector(44).damage(44, 0, 1, true).damage(59, 0, 1, true).repair(7);
        Rig all = new Rig("11: all 60 stay");
        for (int s = 0; s < 60; s++) {
            all.damage(s, s % 12, 1 + s, true);
        }
        all.limit(0, true).repair(60).repair(60).down(false).open(0).number(0);
    }

    private static void promise11DownWhenTheMachineStopsInIt() {
        for (int n = 0; n <= 3; n++) {
            Rig r = new Rig("11: DOWN when the machine stops in it, after " + n);
            r.damage(0, 0, 1, true).lay(20, 7).damage(59, 0, 1, true).limit(n, true).repair(n < 3 ? -9 : 0).down(n < 3);
            // Group by group: a data sector, a parity that does not fit, a parity that is not good.
            r.at(0, 0, n > 0 ? 0 : 1).at(53, 0, n > 1 ? 7 : 0).at(59, 0, n > 2 ? 0 : 1);
        }
        Rig r = new Rig("11: DOWN, though some would stay").damage(0, 0, 1, true).damage(1, 0, 1, true).damage(4, 0, 1, true);
        r.limit(0, true).repair(-9).open(0).repair(2);
    }

    private static void promise12FalseWhenNIsNotSo() {
        Rig r = new Rig("12: false when n is not so").limit(-1, false).limit(201, false).limit(LEAST, false).limit(MOST, false);
        // No limit is set by that, nor is one taken away.
        r.add(0, 1).commit(6).down(false).limit(1, true).limit(201, false).limit(-1, false).add(0, 1).commit(-9).down(true);
        new Rig("12: 0").limit(0, true).add(0, 1).commit(-9);
        new Rig("12: 200").limit(200, true).add(0, 1).commit(6);
    }

    private static void promise12FromNowOn() {
        Rig r = new Rig("12: a limit of n writings from now on").add(0, 1).commit(6).limit(8, true).add(0, 1).commit(8).down(false);
        r.limit(1, true).limit(8, true).add(0, 1).commit(8).down(false).limit(20, true).limit(0, true).add(0, 1).commit(-9);
    }

    private static void promise13WhetherItIsDownOrNot() {
        Rig r = new Rig("13: whether it is down or not").open(0).add(0, 1).commit(6).open(1).open(1).limit(0, true).add(0, 1).commit(-9);
        r.down(true).open(1).down(false).open(1).files(1).number(1);
    }

    private static void promise13ALimitThatIsSetStays() {
        Rig r = new Rig("13: (a limit that is set stays)").limit(7, true).open(0).add(0, 1).commit(6).open(1).add(0, 1).commit(-9).down(true);
        r.at(4, 0, 0).sector(5).open(1).add(0, 1).commit(8);
    }

    private static void promise14WhetherItIsDown() {
        Rig r = new Rig("14: whether it is down").down(false).limit(0, true).down(false).commit(0).down(false).add(0, 1).down(false);
        r.commit(-9).down(true).down(true).at(0, 0, 0).damage(20, 0, 1, true).down(true).open(0).down(false);
    }

    private static void promise15FalseWhenThereIsNoSuchPlace() {
        Rig r = new Rig("15: false when there is no such sector (0 .. 59) or place (0 .. 11)");
        r.damage(-1, 0, 1, false).damage(60, 0, 1, false).damage(0, -1, 1, false).damage(0, 12, 1, false).damage(59, 12, 1, false);
        r.damage(LEAST, 0, 1, false).damage(MOST, 0, 1, false).damage(0, LEAST, 1, false).damage(0, MOST, 1, false);
        // What might be hit instead is as it was.
        r.sector(0).sector(1).sector(59).damage(0, 0, 1, true).damage(59, 11, 1, true).at(0, 0, 1).at(59, 11, 105);
    }

    private static void promise15FalseWhenBitsIsNotSo() {
        Rig r = new Rig("15: or bits is not 1 .. 255").damage(7, 3, 0, false).damage(7, 3, 256, false).damage(7, 3, -1, false);
        r.damage(7, 3, LEAST, false).damage(7, 3, MOST, false).damage(7, 3, 257, false).sector(7);
        r.damage(7, 3, 1, true).at(7, 3, 1).damage(7, 3, 255, true).at(7, 3, 254);
    }

    private static void promise16NoneWhenThereIsNone() {
        Rig r = new Rig("16: NONE when there is none").at(-1, 0, -1).at(60, 0, -1).at(0, -1, -1).at(0, 12, -1).at(59, 12, -1).at(-1, 12, -1);
        r.at(LEAST, 0, -1).at(MOST, 0, -1).at(0, LEAST, -1).at(0, MOST, -1).at(0, 0, 0).at(0, 11, 104).at(59, 0, 0).at(59, 11, 104);
    }

    private static void promise17TheLatestNumber() {
        Rig r = new Rig("17: the latest header's number; -9 when it is down").number(0).add(0, 1).number(0).commit(6).number(1);
        r.commit(0).number(1).damage(1, 2, 1, true).number(1).repair(0).limit(0, true).add(0, 1).commit(-9).number(-9).open(1).number(1);
        Rig s = new Rig("17: after a stop behind the header").add(0, 1).limit(5, true).commit(-9).number(-9).open(1).number(1);
        s.files(1);
    }
}
