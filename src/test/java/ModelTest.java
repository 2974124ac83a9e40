import java.util.Arrays;

/** Long runs of calls, drawn from a fixed row of numbers, answered by the class as by the plain model. */
final class ModelTest {
    private static final int RUNS = 4000;
    /** Counts the calls that can change something; looking at all there is takes many more. */
    private static final int CALLS = 500;

    private static long seed;
    private static final int[] codecs = new int[4];
    private static int stops = 0;
    private static int damaged = 0;
    private static int full = 0;
    private static int laid = 0;

    private static int draw(int bound) {
        seed = seed * 6364136223846793005L + 1442695040888963407L;
        return (int) ((seed >>> 33) % bound);
    }

    private SectorArchive x = new SectorArchive();
    private Model m = new Model();
    private final int run;
    private final int kind;
    private int calls = 0;

    private ModelTest(int run) {
        this.run = run;
        this.kind = run % 5;
    }

    private void same(String call, long got, long want) {
        calls++;
        Rig.same("run " + run + ", call " + calls + ": " + call, got, want);
    }

    private static long bit(boolean b) {
        return b ? 1 : 0;
    }

    /** Bytes of a few kinds, so that each codec is the smallest one at times. */
    private void fillDraft() {
        int style = draw(6);
        int value = draw(256);
        int step = draw(256);
        int size = draw(4) == 0 ? draw(25) : 18 + draw(7);
        for (int i = 0; i < size; i++) {
            value = style == 0 ? draw(256) : style == 1 ? value : style == 2 ? value + step & 255
                    : style == 3 ? 65 + draw(2) : style == 4 ? 65 + draw(4) * draw(3) : i % 3 == 0 ? draw(256) : value + step & 255;
            long w = value | (long) draw(1 << 20) << 8;
            same("write(1, " + w + ")", bit(x.write(1, w)), bit(m.write(1, w)));
        }
    }

    private void write() {
        int n = draw(12) == 0 ? draw(12) - 2 : 1 + draw(8);
        long w = (long) draw(1 << 30) << 34 ^ (long) draw(1 << 30) << 16 ^ draw(1 << 30);
        same("write(" + n + ", " + w + ")", bit(x.write(n, w)), bit(m.write(n, w)));
    }

    private void add() {
        int name = draw(15) == 0 ? draw(12) - 2 : draw(kind == 0 ? 2 : 8);
        same("add(" + name + ")", x.add(name), m.add(name));
    }

    private void remove() {
        int name = draw(8);
        int version = draw(12);
        if (draw(6) != 0 && x.files() > 0) {
            int k = draw(x.files());
            name = x.file(k, 0);
            version = x.file(k, 1);
        }
        same("remove(" + name + ", " + version + ")", bit(x.remove(name, version)), bit(m.remove(name, version)));
    }

    private void commit() {
        int want = m.commit();
        same("commit()", x.commit(), want);
        stops += want == -9 ? 1 : 0;
        full += want == -4 ? 1 : 0;
        if (want > 0 && m.lastCodec >= 0) {
            codecs[m.lastCodec]++;
        }
        sameImage();
    }

    private void extractAll() {
        for (int k = 0; k < x.files(); k++) {
            extract(x.file(k, 0), x.file(k, 1));
        }
    }

    private void extract(int name, int version) {
        int want = m.extract(name, version);
        damaged += want == -2 ? 1 : 0;
        same("extract(" + name + ", " + version + ")", x.extract(name, version), want);
        for (int i = -1; i < 25; i++) {
            Rig.same("run " + run + ": extracted(" + i + ")", x.extracted(i), m.extracted(i));
        }
    }

    private void sameImage() {
        for (int s = 0; s < 60; s++) {
            for (int p = 0; p < 12; p++) {
                if (x.at(s, p) != m.at(s, p)) {
                    same("at(" + s + ", " + p + ")", x.at(s, p), m.at(s, p));
                }
            }
        }
    }

    private void sameIndex() {
        same("files()", x.files(), m.files());
        same("number()", x.number(), m.number());
        same("down()", bit(x.down()), bit(m.down()));
        for (int k = -1; k < 11; k++) {
            for (int w = -1; w < 7; w++) {
                Rig.same("run " + run + ": file(" + k + ", " + w + ")", x.file(k, w), m.file(k, w));
            }
        }
    }

    private int someSector() {
        return draw(3) == 0 ? draw(60) : draw(2) == 0 ? draw(10) : 48 + draw(3);
    }

    private void damage() {
        int s = draw(20) == 0 ? draw(70) - 5 : someSector();
        int p = draw(20) == 0 ? draw(16) - 2 : draw(12);
        int bits = draw(20) == 0 ? draw(600) - 200 : 1 + draw(255);
        same("damage(" + s + ", " + p + ", " + bits + ")", bit(x.damage(s, p, bits)), bit(m.damage(s, p, bits)));
    }

    /** Damage that leaves the sector good, so that its bytes are believed. */
    private void forge() {
        int s = someSector();
        if (draw(2) == 0) {
            s = draw(2);
        } else if (x.files() > 0 && draw(2) == 0) {
            int k = draw(x.files());
            s = x.file(k, 4) + draw(x.file(k, 5));
        }
        int p = draw(3) == 0 ? draw(11) : draw(5);
        int bits = draw(2) == 0 ? 1 << draw(8) : 1 + draw(255);
        same("damage", bit(x.damage(s, p, bits)), bit(m.damage(s, p, bits)));
        int fix = m.image[s][11] ^ Rig.check(m.image[s]);
        if (fix != 0) {
            same("damage", bit(x.damage(s, 11, fix)), bit(m.damage(s, 11, fix)));
        }
    }

    /** Makes a sector hold bytes and their check. */
    private void lay(int s, int... bytes) {
        int[] whole = Rig.sealed(Arrays.copyOf(bytes, 11));
        for (int p = 0; p < 12; p++) {
            int bits = m.image[s][p] ^ whole[p];
            if (bits != 0) {
                same("damage(" + s + ", " + p + ", " + bits + ")", bit(x.damage(s, p, bits)), bit(m.damage(s, p, bits)));
            }
        }
    }

    private void layAll(int first, int[] bytes) {
        for (int i = 0; 11 * i < bytes.length && first + i < 48; i++) {
            lay(first + i, Arrays.copyOfRange(bytes, 11 * i, 11 * i + 11));
        }
    }

    private static int oneOf(int... values) {
        return values[draw(values.length)];
    }

    /** An index whose values lie at the edges of what is taken, at times one step beyond. */
    private int[] edgeIndex(int files) {
        int[] bytes = new int[1 + 7 * files];
        bytes[0] = files;
        int name = draw(2);
        int version = 0;
        for (int k = 0; k < files; k++) {
            if (version > 250 || draw(2) == 0) {
                name++;
                version = 0;
            }
            version = Math.max(version + 1, oneOf(1, 1, 2, 250, 251, 252, 253));
            int first = oneOf(2, 20, 30, 40, 46, 47);
            int sectors = 1 + draw(Math.min(48 - first, draw(3) == 0 ? 40 : 4));
            int[] entry = {name, version, first, sectors, oneOf(0, 0, 1, 24, 255), draw(25), oneOf(0, 1, 125, 126, 127, 128, 255)};
            if (draw(60) == 0) {
                entry[draw(6)] += oneOf(-1, 1);
            }
            for (int w = 0; w < 7; w++) {
                bytes[1 + 7 * k + w] = entry[w] & 255;
            }
        }
        return bytes;
    }

    private String someBits(int count) {
        StringBuilder bits = new StringBuilder();
        int style = draw(3);
        for (int i = 0; i < count; i++) {
            bits.append(style == 0 ? draw(2) : style == 1 ? draw(4) / 3 : 1 - draw(4) / 3);
        }
        return bits.toString();
    }

    /** A block that may be one: with a table whose bytes mostly rise, and lengths of any kind. */
    private int[] edgeBlock() {
        int codec = draw(12) == 0 ? draw(256) : draw(4);
        StringBuilder bits = new StringBuilder();
        if (codec == 3) {
            int symbols = oneOf(0, 1, 2, 3, 3, 4, 5, 6, 7, 8);
            bits.append(Integer.toBinaryString(128 + symbols).substring(1));
            int value = draw(30) - 1;
            for (int k = 0; k < symbols; k++) {
                value += draw(40) == 0 ? 0 : 1 + draw(20);
                int length = draw(40) == 0 ? 0 : draw(4) == 0 ? 1 + draw(15) : 1 + draw(4);
                bits.append(Integer.toBinaryString(256 + value).substring(1)).append(Integer.toBinaryString(16 + length).substring(1));
            }
        }
        bits.append(codec == 1 || codec == 2 ? "0" : "").append(someBits(draw(160)));
        int count = codec == 0 ? draw(bits.length() / 8 + 2) : draw(30) == 0 ? 255 : draw(25);
        return Blocks.block(codec, count, bits.toString());
    }

    /** Headers, an index and a block that lie at the edges, laid before the run. */
    private void layEdges() {
        int files = draw(30) == 0 ? 11 : 1 + draw(10);
        int[] bytes = edgeIndex(files);
        int need = (bytes.length + 10) / 11;
        int sectors = draw(20) == 0 ? need - 1 : draw(20) == 0 ? need + 1 : need;
        int first = draw(8) == 0 ? oneOf(1, 2, 47, 48 - sectors, 49 - sectors) : 3 + draw(12);
        if (first > 1) {
            layAll(first, bytes);
        }
        layAll(oneOf(20, 30, 40), edgeBlock());
        int number = oneOf(0, 1, 2, 126, 253, 254, 255);
        int slot = draw(2);
        lay(slot, 83, 65, number, first, sectors);
        if (draw(2) == 0) {
            int other = number + oneOf(-1, 1, 2, 0) & 255;
            lay(1 - slot, 83, 65, other, draw(2) == 0 ? 0 : first, draw(2) == 0 ? 0 : sectors);
        }
        if (draw(2) == 0) {
            same("repair()", x.repair(), m.repair());
        }
        open();
        laid += x.files() > 0 ? 1 : 0;
    }

    private void setLimit() {
        int n = draw(15) == 0 ? draw(300) - 50 : draw(20);
        same("limit(" + n + ")", bit(x.limit(n)), bit(m.limit(n)));
    }

    private void open() {
        same("open()", x.open(), m.open());
        sameIndex();
        extractAll();
    }

    private void step() {
        int what = draw(40);
        if (what < 8) {
            fillDraft();
        } else if (what < 9) {
            write();
        } else if (what < 17) {
            add();
        } else if (what < 22) {
            remove();
        } else if (what < 30) {
            commit();
        } else if (what < 31) {
            same("drop()", x.drop(), m.drop());
        } else if (what < 32) {
            extractAll();
        } else if (what < 33) {
            extract(draw(10) - 1, draw(5));
        } else if (what < 35) {
            if (kind == 2 || kind == 3) {
                setLimit();
            }
        } else if (what < 36) {
            sameIndex();
        } else if (kind == 1 || kind == 3) {
            hurt();
        }
        if (x.down() && draw(3) == 0 || draw(60) == 0) {
            open();
        }
    }

    private void hurt() {
        int what = draw(4);
        if (what == 0) {
            damage();
        } else if (what < 3) {
            forge();
            extractAll();
        } else {
            same("repair()", x.repair(), m.repair());
            sameImage();
        }
    }

    public static void main(String[] args) {
        for (int run = 0; run < RUNS; run++) {
            seed = run * 7919L + 17;
            ModelTest test = new ModelTest(run);
            for (int round = 0; test.kind == 4 && round < 3; round++) {
                test.layEdges();
            }
            while (test.calls < CALLS) {
                test.step();
            }
            test.sameIndex();
            test.sameImage();
        }
        for (int c = 0; c < 4; c++) {
            System.out.println("blocks by codec " + c + ": " + codecs[c]);
            Rig.same("codec " + c + " comes", codecs[c] > 100 ? 1 : 0, 1);
        }
        System.out.println("stops " + stops + ", FULL " + full + ", DAMAGED " + damaged + ", laid archives with files " + laid);
        Rig.same("laid archives are opened", laid > 100 ? 1 : 0, 1);
        Rig.same("stops, FULL and DAMAGED come", stops > 100 && full > 100 && damaged > 100 ? 1 : 0, 1);
        Rig.finish();
    }
}
