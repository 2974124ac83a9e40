/** Promise 1, and 15 and 16 on the image as it is at first. */
final class NewObjectTest {
    public static void main(String[] args) {
        emptyArchive();
        imageAtFirst();
        damageAndAt();
        Rig.finish();
    }

    private static void emptyArchive() {
        Rig r = new Rig("new");
        r.files(0).number(0).down(false).extracted(0, -1).file(0, 0, -1).extract(0, 1, -1).remove(0, 1, false);
        r.drop(0).commit(0).repair(0).open(0).number(0);
        r.put(2, 1, 9).commit(6).file(0, 3, 1);
    }

    private static void imageAtFirst() {
        // The check of eleven 0, by hand from the document: a constant the image must show everywhere.
        Rig.same("check of eleven 0", Rig.check(new int[11]), 104);
        for (int from = 0; from < 60; from += 30) {
            Rig r = new Rig("image from " + from);
            for (int s = from; s < from + 30; s++) {
                r.sector(s);
            }
        }
    }

    private static void damageAndAt() {
        Rig r = new Rig("damage");
        r.damage(-1, 0, 1, false).damage(60, 0, 1, false).damage(0, -1, 1, false).damage(0, 12, 1, false);
        r.damage(0, 0, 0, false).damage(0, 0, 256, false).damage(0, 0, -1, false).damage(0, 0, 257, false);
        r.damage(Integer.MAX_VALUE, Integer.MAX_VALUE, 1, false).damage(Integer.MIN_VALUE, 0, 1, false);
        r.sector(0).at(-1, 0, -1).at(60, 0, -1).at(0, -1, -1).at(0, 12, -1);
        r.at(Integer.MAX_VALUE, 0, -1).at(0, Integer.MIN_VALUE, -1);
        r.damage(5, 4, 255, true).at(5, 4, 255).damage(5, 4, 15, true).at(5, 4, 240).at(5, 3, 0).at(4, 4, 0);
        r.damage(59, 11, 1, true).at(59, 11, 104 ^ 1).damage(59, 11, 1, true).at(59, 11, 104);
        r.damage(0, 0, 1, true).at(0, 0, 1).damage(59, 0, 128, true).at(59, 0, 128);
    }
}
