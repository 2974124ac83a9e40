/** Promises 2 to 5: the draft, added files, removals, and what is dropped. */
final class DraftTest {
    public static void main(String[] args) {
        writeTakesTheLowestBytes();
        writeRefuses();
        addKeepsTheDraftWhenItRefuses();
        removeKnowsTheIndexAlone();
        dropCountsAll();
        Rig.finish();
    }

    private static void writeTakesTheLowestBytes() {
        Rig r = new Rig("write");
        r.write(3, 0x7f030201L, true).write(8, 0x8807060504030201L, true).write(1, -1L, true).write(2, 0x1FF00L, true);
        r.add(0, 1).commit(8).holds(0, 1, 1, 2, 3, 1, 2, 3, 4, 5, 6, 7, 0x88, 255, 0, 255);
    }

    private static void writeRefuses() {
        Rig r = new Rig("write refuses");
        r.write(0, 1, false).write(9, 1, false).write(-1, 1, false);
        r.write(Integer.MAX_VALUE, 1, false).write(Integer.MIN_VALUE, 1, false);
        r.write(8, 0x0101010101010101L, true).write(8, 0x0202020202020202L, true).write(7, 0x03030303030303L, true);
        r.write(2, 0x0909, false).write(8, 0, false).write(1, 4, true).write(1, 5, false);
        r.add(1, 1).commit(6);
        r.holds(1, 1, 1, 1, 1, 1, 1, 1, 1, 1, 2, 2, 2, 2, 2, 2, 2, 2, 3, 3, 3, 3, 3, 3, 3, 4);
    }

    private static void addKeepsTheDraftWhenItRefuses() {
        Rig r = new Rig("add");
        r.write(2, 0x0201, true).add(8, -1).add(-1, -1).add(Integer.MAX_VALUE, -1).add(Integer.MIN_VALUE, -1);
        r.add(7, 1).add(0, 2).write(1, 3, true).add(0, 3).write(8, 0, true).add(3, 4);
        r.write(1, 77, true).add(3, -4).add(0, -4).files(0);
        r.commit(10).files(4);
        r.holds(7, 1, 1, 2).holds(0, 1).holds(0, 2, 3).holds(3, 1, 0, 0, 0, 0, 0, 0, 0, 0);
        // Neither the refusals nor the commit have taken the draft.
        r.add(5, 1).commit(12).holds(5, 1, 77);
    }

    private static void removeKnowsTheIndexAlone() {
        Rig r = new Rig("remove");
        r.put(4, 1, 1).remove(4, 1, false).commit(6);
        r.remove(4, 0, false).remove(4, 2, false).remove(3, 1, false).remove(-1, 1, false).remove(8, 1, false);
        r.remove(4, Integer.MAX_VALUE, false).remove(4, 257, false).remove(4 + 256, 1, false);
        r.remove(4, 1, true).remove(4, 1, false).files(1).extract(4, 1, 1);
        r.drop(1).remove(4, 1, true).commit(2).files(0).remove(4, 1, false).extract(4, 1, -1);
    }

    private static void dropCountsAll() {
        Rig r = new Rig("drop");
        r.drop(0).put(1, 1, 1).put(1, 2, 2).commit(8).drop(0);
        r.put(2, 1).put(2, 2, 5).put(3, 3, 6).remove(1, 1, true).remove(1, 2, true).write(1, 8, true);
        r.drop(5).drop(0).commit(0).files(2).number(1);
        // The draft is no change that waits: it stays.
        r.add(6, 1).commit(8).holds(6, 1, 8).files(3);
        r.extract(2, 1, -1).extract(3, 1, -1);
    }
}
