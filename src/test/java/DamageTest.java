/** Promises 7, 8 and 11: what can be read of damaged sectors, and what repair writes. */
final class DamageTest {
    public static void main(String[] args) {
        extractRestores();
        extractedStays();
        repairData();
        repairParity();
        repairStaleParity();
        repairLeavesTwo();
        repairStops();
        writingJoinsSectorsAsTheyAre();
        Rig.finish();
    }

    private static final int[] RAW = {3, 99, 14, 201, 77, 160, 8, 255, 31, 120, 66, 180};

    /** One file over the sectors 2 and 3, its index in 4, in a group of its own. */
    private static Rig two(String name) {
        return new Rig(name).put(1, 1, RAW).commit(8).file(0, 5, 2);
    }

    private static void extractRestores() {
        for (int place = 0; place < 12; place += 11) {
            two("restore " + place).damage(2, place, 4, true).holds(1, 1, RAW).at(2, 11, place == 11 ? Rig.check(
                    Rig.row(0, 12, 12, 3, 99, 14, 201, 77, 160, 8, 255)) ^ 4 : Rig.check(Rig.row(0, 12, 12, 3, 99, 14, 201, 77, 160, 8, 255)));
        }
        two("other data is bad").damage(2, 0, 1, true).damage(0, 5, 1, true).extract(1, 1, -2);
        two("parity is bad").damage(2, 0, 1, true).damage(48, 5, 1, true).extract(1, 1, -2);
        two("parity alone is bad").damage(48, 5, 1, true).holds(1, 1, RAW);
        two("another group is bad").damage(2, 0, 1, true).damage(4, 5, 1, true).damage(49, 5, 1, true).holds(1, 1, RAW);
    }

    private static void extractedStays() {
        Rig r = two("extracted").extracted(0, -1).holds(1, 1, RAW);
        r.damage(2, 0, 1, true).damage(3, 0, 1, true).extract(1, 1, -2).extracted(0, 3).extracted(11, 180).extracted(12, -1);
        r.extract(1, 2, -1).extract(2, 1, -1).extract(-1, 1, -1).extract(8, 1, -1).extract(1, 0, -1).extracted(11, 180);
        r.extracted(-1, -1).extracted(Integer.MAX_VALUE, -1).extracted(Integer.MIN_VALUE, -1);
        r.open(1).extracted(11, 180).limit(0, true).put(0, 1, 1).commit(-9).extracted(11, -9).open(1).extracted(11, 180);
        r.damage(2, 0, 1, true).remove(1, 1, true).put(5, 1).commit(6).extracted(0, 3).extract(5, 1, 0).extracted(0, -1);
    }

    private static void repairData() {
        Rig r = two("repair data");
        r.damage(3, 2, 9, true).damage(4, 11, 9, true).limit(2, true).repair(0).down(false).repair(0);
        r.sector(3, 31, 120, 66, 180).sector(4, 1, 1, 1, 2, 2, 0, 12, 1).holds(1, 1, RAW);
        // Both writings are used up: one more stops the machine.
        r.damage(3, 2, 9, true).repair(-9).down(true);
        r.at(3, 2, 66 ^ 9).open(1).repair(0).at(3, 2, 66);
    }

    private static void repairParity() {
        Rig r = two("repair parity");
        int due = r.x.at(48, 7);
        r.damage(48, 7, 255, true).repair(0).at(48, 7, due).damage(59, 11, 1, true).repair(0).sector(59);
        for (int group = 0; group < 12; group++) {
            r.damage(4 * group + group % 4, 3, 16, true);
        }
        r.limit(12, true).repair(0).holds(1, 1, RAW).sector(47).limit(0, true).repair(0).down(false);
    }

    /** A good parity sector that does not fit is made anew; a bad data sector is restored by it as it is. */
    private static void repairStaleParity() {
        Rig r = new Rig("stale parity");
        r.lay(8, 1, 2, 3).limit(0, true).repair(-9).sector(50).open(0).limit(1, true).repair(0);
        r.sector(50, 1, 2, 3).repair(0).down(false);
        r.lay(57, 7).limit(1, true).repair(0).sector(57);

        Rig s = new Rig("stale parity and bad data");
        s.lay(9, 1, 2, 3).damage(10, 0, 5, true).repair(0).sector(10, 1, 2, 3).sector(50).repair(0);
    }

    private static void repairLeavesTwo() {
        Rig r = two("two bad");
        r.damage(2, 0, 1, true).damage(3, 0, 1, true).limit(0, true).repair(2).down(false).at(2, 0, 1);
        r.damage(48, 0, 1, true).repair(3).damage(0, 0, 1, true).repair(4).damage(1, 0, 1, true).repair(5);
        r.damage(58, 0, 1, true).damage(40, 0, 1, true).repair(7).down(false);
        r.damage(20, 0, 1, true).limit(1, true).repair(7).sector(20).down(false);
        r.damage(0, 0, 1, true).damage(1, 0, 1, true).damage(2, 0, 1, true).damage(48, 0, 1, true);
        r.limit(1, true).repair(2).holds(1, 1, RAW);
    }

    private static void repairStops() {
        Rig r = new Rig("repair stops");
        for (int group = 0; group < 12; group++) {
            r.damage(4 * group, 0, 1, true);
        }
        r.limit(5, true).repair(-9).down(true).repair(-9).at(16, 0, 0).at(20, 0, 1).open(0);
        r.repair(0).at(20, 0, 0).at(44, 0, 0);
    }

    /** The parity of a writing takes bad sectors with the bytes that they have. */
    private static void writingJoinsSectorsAsTheyAre() {
        Rig r = new Rig("as they are");
        r.damage(3, 10, 64, true).put(0, 1, 1).commit(6).at(48, 10, 0).at(3, 10, 0);
        Rig s = new Rig("as they are, bad");
        s.damage(0, 10, 64, true).put(0, 1, 1).commit(6).at(48, 10, 64).at(48, 0, 83 ^ 1).repair(0).at(0, 10, 64);
    }
}
