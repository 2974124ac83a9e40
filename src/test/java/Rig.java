import java.util.Arrays;

/** What the tests share: checks of answers that are counted, and sectors laid by damage alone. */
final class Rig {
    /** The document promises nothing of an object after so many calls. */
    private static final int MOST_CALLS = 512;

    private static int wrong = 0;
    private static int asked = 0;

    final SectorArchive x = new SectorArchive();
    private final String name;
    private int calls = 0;

    Rig(String name) {
        this.name = name;
    }

    static void same(String what, long got, long want) {
        asked++;
        if (got != want) {
            wrong++;
            System.out.println(what + " answered " + got + ", due is " + want);
        }
    }

    static void finish() {
        System.out.println(asked + " answers looked at, " + wrong + " wrong");
        if (wrong != 0 || asked == 0) {
            System.exit(1);
        }
    }

    private void counted(String call, long got, long want) {
        calls++;
        if (calls > MOST_CALLS) {
            throw new IllegalStateException(name + ": a test may not use more than 512 calls");
        }
        same(name + ": " + call, got, want);
    }

    Rig write(int n, long w, boolean want) {
        counted("write(" + n + ", " + w + ")", x.write(n, w) ? 1 : 0, want ? 1 : 0);
        return this;
    }

    Rig add(int file, int want) {
        counted("add(" + file + ")", x.add(file), want);
        return this;
    }

    Rig remove(int file, int version, boolean want) {
        counted("remove(" + file + ", " + version + ")", x.remove(file, version) ? 1 : 0, want ? 1 : 0);
        return this;
    }

    Rig drop(int want) {
        counted("drop()", x.drop(), want);
        return this;
    }

    Rig commit(int want) {
        counted("commit()", x.commit(), want);
        return this;
    }

    Rig extract(int file, int version, int want) {
        counted("extract(" + file + ", " + version + ")", x.extract(file, version), want);
        return this;
    }

    Rig extracted(int i, int want) {
        counted("extracted(" + i + ")", x.extracted(i), want);
        return this;
    }

    Rig files(int want) {
        counted("files()", x.files(), want);
        return this;
    }

    Rig file(int k, int w, int want) {
        counted("file(" + k + ", " + w + ")", x.file(k, w), want);
        return this;
    }

    Rig repair(int want) {
        counted("repair()", x.repair(), want);
        return this;
    }

    Rig limit(int n, boolean want) {
        counted("limit(" + n + ")", x.limit(n) ? 1 : 0, want ? 1 : 0);
        return this;
    }

    Rig open(int want) {
        counted("open()", x.open(), want);
        return this;
    }

    Rig down(boolean want) {
        counted("down()", x.down() ? 1 : 0, want ? 1 : 0);
        return this;
    }

    Rig damage(int sector, int place, int bits, boolean want) {
        counted("damage(" + sector + ", " + place + ", " + bits + ")", x.damage(sector, place, bits) ? 1 : 0, want ? 1 : 0);
        return this;
    }

    Rig at(int sector, int place, int want) {
        counted("at(" + sector + ", " + place + ")", x.at(sector, place), want);
        return this;
    }

    Rig number(int want) {
        counted("number()", x.number(), want);
        return this;
    }

    /** Writes the bytes into the draft and adds it. */
    Rig put(int file, int want, int... bytes) {
        for (int b : bytes) {
            write(1, b, true);
        }
        return add(file, want);
    }

    /** Extracts a file that is there with just these bytes. */
    Rig holds(int file, int version, int... bytes) {
        extract(file, version, bytes.length);
        for (int i = 0; i < bytes.length; i++) {
            extracted(i, bytes[i]);
        }
        return extracted(bytes.length, -1);
    }

    /** Looks at a sector's eleven bytes (0 where none is given) and its check. */
    Rig sector(int sector, int... bytes) {
        int[] whole = sealed(bytes);
        for (int place = 0; place < 12; place++) {
            at(sector, place, whole[place]);
        }
        return this;
    }

    /** Makes a sector that still is as at first hold these bytes and their check. */
    Rig lay(int sector, int... bytes) {
        return change(sector, sealed(), sealed(bytes));
    }

    /** Makes a good sector that holds some bytes hold others, good again. */
    Rig relay(int sector, int[] before, int[] after) {
        return change(sector, sealed(before), sealed(after));
    }

    private Rig change(int sector, int[] before, int[] after) {
        for (int place = 0; place < 12; place++) {
            if (before[place] != after[place]) {
                damage(sector, place, before[place] ^ after[place], true);
            }
        }
        return this;
    }

    static int[] row(int... bytes) {
        return bytes;
    }

    static int[] sealed(int... bytes) {
        int[] whole = Arrays.copyOf(bytes, 12);
        whole[11] = check(whole);
        return whole;
    }

    static int check(int[] bytes) {
        int c = 90;
        for (int i = 0; i < 11; i++) {
            c ^= bytes[i];
            for (int turn = 0; turn < 8; turn++) {
                boolean high = c >= 128;
                c = 2 * c;
                if (high) {
                    c = c ^ 29;
                }
                c = c & 255;
            }
        }
        return c;
    }
}
