import java.util.ArrayList;
import java.util.List;

/** The document's first lines: each clause of its first sentence, the 512 calls, and the example of README.md. */
final class FirstLinesTest {
    private static final int[] MIXED = {3, 99, 14, 201, 77, 160, 8, 255, 31, 120, 66, 180};

    public static void main(String[] args) {
        filesWithVersions();
        packedIntoOneBlock();
        theIndexTellsWhereEverythingIs();
        twoSlotsWrittenInTurn();
        parityRestoresWhatIsDamaged();
        aStopFindsTheStateBeforeOrAfter();
        aStopInRepairLosesNothing();
        usedFor512Calls();
        theExampleOfTheReadme();
        Rig.finish();
    }

    private static void filesWithVersions() {
        Rig r = new Rig("files with versions").put(4, 1, 1).commit(6).put(4, 1, 2).commit(8).put(4, 1, 3, 3).put(4, 2).commit(10);
        r.files(4).holds(4, 1, 1).holds(4, 2, 2).holds(4, 3, 3, 3).holds(4, 4);
    }

    private static void packedIntoOneBlock() {
        // Each file alone would be stored; together the second and the third are a match of the first.
        Rig r = new Rig("what is added together is packed into one block");
        r.put(2, 1, 7, 8, 9).put(1, 2, 7, 8, 9).put(0, 3, 7, 8, 9).commit(8).at(2, 0, 1).at(2, 1, 9).at(2, 2, 5);
        for (int k = 0; k < 3; k++) {
            r.file(k, 4, 2).file(k, 5, 1);
        }
        r.holds(0, 1, 7, 8, 9).holds(1, 1, 7, 8, 9).holds(2, 1, 7, 8, 9);
        // What is added later is packed alone, though it would match.
        r.put(3, 1, 7, 8, 9).commit(10).file(3, 4, 5).sector(5, 0, 3, 3, 7, 8, 9);
    }

    private static void theIndexTellsWhereEverythingIs() {
        Rig r = new Rig("an index tells where everything is").put(5, 1, MIXED).put(1, 2, 250).commit(10);
        r.sector(1, 83, 65, 1, 4, 2).sector(4, 2, 1, 1, 2, 2, 12, 1, 1, 5, 1, 2).sector(5, 2, 0, 12, 1);
        // Another index leads to other bytes: the file of one byte begins at 3 and has four then.
        r.relay(4, Rig.row(2, 1, 1, 2, 2, 12, 1, 1, 5, 1, 2), Rig.row(2, 1, 1, 2, 2, 3, 4, 1, 5, 1, 2)).open(2).holds(1, 1, 201, 77, 160, 8);
    }

    private static void twoSlotsWrittenInTurn() {
        Rig r = new Rig("two header slots are written in turn");
        int[] numbers = {0, 0};
        for (int n = 1; n <= 20; n++) {
            r.remove(0, n - 1, n > 1).put(0, 1, n).commit(6);
            numbers[n % 2] = n;
            r.at(0, 2, numbers[0]).at(1, 2, numbers[1]).number(n);
        }
    }

    /** Three files in two blocks, so that blocks, index and headers lie in more groups than one. */
    private static Rig filled(String name) {
        return new Rig(name).put(1, 1, MIXED).put(6, 2, 5, 5, 5, 5).commit(10).put(1, 1, 42).commit(8);
    }

    private static void holdsAll(Rig r) {
        r.files(3).number(2).holds(1, 1, MIXED).holds(6, 1, 5, 5, 5, 5).holds(1, 2, 42);
    }

    private static void parityRestoresWhatIsDamaged() {
        for (int sector = 0; sector < 60; sector++) {
            for (int place = 0; place < 12; place += 11) {
                Rig r = filled("parity sectors restore what is damaged: " + sector + ", " + place);
                int due = r.x.at(sector, place);
                r.damage(sector, place, 129, true).open(3);
                holdsAll(r);
                r.at(sector, place, due ^ 129).repair(0).at(sector, place, due).open(3);
                holdsAll(r);
            }
        }
    }

    /** The index's files with their bytes, as text. */
    private static String state(SectorArchive x) {
        StringBuilder text = new StringBuilder();
        for (int k = 0; k < x.files(); k++) {
            text.append(x.file(k, 0)).append('/').append(x.file(k, 1)).append('@').append(x.file(k, 3)).append(':');
            int size = x.extract(x.file(k, 0), x.file(k, 1));
            text.append(size);
            for (int i = 0; i < size; i++) {
                text.append(i == 0 ? '=' : ',').append(x.extracted(i));
            }
            text.append(' ');
        }
        return text.append('#').append(x.number()).toString();
    }

    private static void put(SectorArchive x, int name, int from, int count) {
        for (int i = 0; i < count; i++) {
            x.write(1, (from + i * i * 37) & 255);
        }
        x.add(name);
    }

    /** Makes the changes of a turn wait; the turns are made to go through growth, removal and emptiness. */
    private static void change(SectorArchive x, int turn) {
        switch (turn) {
            case 0 -> put(x, 3, 11, 9);
            case 1 -> {
                put(x, 3, 90, 14);
                put(x, 0, 7, 3);
            }
            case 2 -> x.remove(3, 1);
            case 3 -> {
                x.remove(0, 1);
                put(x, 7, 200, 6);
                put(x, 7, 1, 0);
            }
            case 4 -> {
                x.remove(3, 2);
                x.remove(7, 1);
                x.remove(7, 2);
            }
            default -> put(x, 3, 60, 2);
        }
    }

    private static SectorArchive upTo(int turn) {
        SectorArchive x = new SectorArchive();
        for (int t = 0; t < turn; t++) {
            change(x, t);
            x.commit();
        }
        return x;
    }

    private static void aStopFindsTheStateBeforeOrAfter() {
        for (int turn = 0; turn < 6; turn++) {
            SectorArchive whole = upTo(turn);
            whole.open();
            String before = state(whole);
            change(whole, turn);
            int writings = whole.commit();
            String after = state(whole);
            Rig.same("turn " + turn + " takes writings", writings >= 2 ? 1 : 0, 1);
            List<String> found = new ArrayList<>();
            for (int n = 0; n < writings; n++) {
                SectorArchive x = upTo(turn);
                x.open();
                change(x, turn);
                x.limit(n);
                Rig.same("turn " + turn + " stopped after " + n, x.commit(), -9);
                x.open();
                String state = state(x);
                found.add(state);
                // The header's own sector is the last writing but one: from then on the new state is found.
                boolean due = state.equals(n < writings - 1 ? before : after);
                Rig.same("turn " + turn + " stopped after " + n + " found " + state, due ? 1 : 0, 1);
                // What was stopped can be done again, and is the same then.
                if (n < writings - 1) {
                    change(x, turn);
                    Rig.same("turn " + turn + " again after " + n, x.commit(), writings);
                    Rig.same("turn " + turn + " again after " + n + " found " + state(x), state(x).equals(after) ? 1 : 0, 1);
                }
            }
            Rig.same("turn " + turn + " finds both", found.contains(before) && found.contains(after) ? 1 : 0, 1);
        }
    }

    private static void aStopInRepairLosesNothing() {
        for (int n = 0; n <= 3; n++) {
            Rig r = filled("a stop in repair after " + n).damage(0, 3, 1, true).damage(6, 0, 9, true).damage(50, 11, 3, true);
            r.limit(n, true).repair(n < 3 ? -9 : 0).down(n < 3).open(3);
            holdsAll(r);
            r.limit(n < 3 ? 3 - n : 0, true).repair(0).down(false);
            holdsAll(r);
        }
    }

    private static void usedFor512Calls() {
        Rig r = new Rig("An object is used for at most 512 calls");
        for (int k = 1; k <= 126; k++) {
            r.add(2, 1).commit(6).remove(2, k, true).commit(2);
        }
        // 504 calls are done; all that counts has counted through.
        r.number(252).write(1, 77, true).add(2, 1).commit(6).file(0, 1, 127).file(0, 3, 127).extract(2, 127, 1).extracted(0, 77);
    }

    private static void theExampleOfTheReadme() {
        Rig r = new Rig("README.md").write(3, 0x030201, true).add(5, 1).commit(6).extract(5, 1, 3).extracted(0, 1);
        r.damage(2, 0, 255, true).extract(5, 1, 3).repair(0).remove(5, 1, true).limit(1, true).commit(-9).down(true);
        r.open(0).number(2);
    }
}
