/** Promises 12 and 14: limits of writings, what a machine that is down answers, and stops at every writing. */
final class LimitTest {
    public static void main(String[] args) {
        limitTakesItsRange();
        limitCounts();
        limitIsGoneAfterTheStop();
        limitStaysOverOpening();
        downAnswers();
        stopsAtEveryWriting();
        Rig.finish();
    }

    private static void limitTakesItsRange() {
        Rig r = new Rig("limit");
        r.limit(-1, false).limit(201, false).limit(Integer.MAX_VALUE, false).limit(Integer.MIN_VALUE, false);
        r.put(0, 1, 1).commit(6).limit(200, true).limit(0, true).limit(-1, false).limit(201, false);
        // What was refused has not taken the limit away.
        r.put(0, 1, 1).commit(-9).down(true);
    }

    private static void limitCounts() {
        Rig r = new Rig("limit counts");
        r.limit(6, true).put(0, 1, 1).commit(6).down(false).files(1).damage(40, 0, 1, true).repair(-9).down(true).open(1);
        // A later limit counts from then on.
        r.limit(3, true).limit(8, true).put(0, 1, 1).commit(8).down(false);
        r.limit(13, true).put(0, 1, 1).commit(8).put(0, 1, 1).commit(-9).open(3);
        r.limit(0, true).commit(0).down(false).extract(0, 1, 1).open(3).repair(-9);
    }

    private static void limitIsGoneAfterTheStop() {
        Rig r = new Rig("limit gone");
        r.limit(0, true).put(0, 1, 1).commit(-9).open(0).put(0, 1, 1).commit(6).down(false).files(1);
    }

    private static void limitStaysOverOpening() {
        Rig r = new Rig("limit stays");
        r.limit(7, true).put(0, 1, 1).commit(6).open(1).put(0, 1, 2).open(1).open(1).down(false);
        r.put(0, 1, 1).commit(-9).at(4, 0, 0).at(4, 1, 1).open(1).put(0, 1, 1).commit(8);
    }

    private static void downAnswers() {
        Rig r = new Rig("down");
        r.put(0, 1, 1).commit(6).extract(0, 1, 1).put(0, 1, 2).write(1, 3, true).remove(0, 1, true).down(false);
        r.limit(1, true).commit(-9).down(true).down(true);
        r.write(1, 1, false).write(0, 1, false).add(0, -9).add(9, -9).remove(0, 1, false).remove(0, 9, false).drop(-9).commit(-9);
        r.extract(0, 1, -9).extract(0, 9, -9).extracted(0, -9).extracted(99, -9).files(-9).file(0, 0, -9).file(99, 99, -9);
        r.repair(-9).limit(5, false).limit(999, false).number(-9);
        r.at(1, 0, 83).at(60, 0, -1).damage(30, 0, 2, true).damage(30, 0, 0, false).at(30, 0, 2).down(true);
        r.open(1).down(false).number(1).drop(0).commit(0).extracted(0, 1).extracted(1, -1);
        // No draft is left either.
        r.add(5, 1).commit(8).extract(5, 1, 0);
        // Opening forgets what waits without a stop as well.
        r.write(2, 0, true).add(1, 1).write(1, 7, true).remove(5, 1, true).open(2).drop(0).add(1, 1).commit(8).holds(1, 1);
    }

    /** A commit that removes one file and adds three, stopped after each number of writings. */
    private static void stopsAtEveryWriting() {
        int whole = 12;
        for (int n = 0; n <= whole; n++) {
            Rig r = new Rig("stop after " + n);
            r.put(1, 1, 1, 2, 3).put(2, 2, 4).commit(8);
            r.remove(1, 1, true).put(1, 1, 5, 6).put(0, 2, 7, 9, 50, 200, 31).put(3, 3, 99, 98, 14, 13);
            r.limit(n, true).commit(n < whole ? -9 : whole).down(n < whole);
            // The header's own sector is the last but one writing.
            boolean after = n >= whole - 1;
            r.open(after ? 4 : 2).number(after ? 2 : 1);
            if (after) {
                r.holds(1, 2, 5, 6).holds(0, 1, 7, 9, 50, 200, 31).holds(3, 1, 99, 98, 14, 13).extract(1, 1, -1).holds(2, 1, 4);
            } else {
                r.holds(1, 1, 1, 2, 3).holds(2, 1, 4).extract(1, 2, -1).extract(0, 1, -1);
            }
            r.limit(n < whole && n % 2 == 1 ? 1 : 0, true).repair(0).limit(200, true);
            r.put(7, 1, 8).commit(after ? 12 : 8).open(after ? 5 : 3).holds(7, 1, 8);
        }
    }
}
