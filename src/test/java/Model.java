import java.util.ArrayList;
import java.util.Arrays;
import java.util.Comparator;
import java.util.HashMap;
import java.util.List;
import java.util.Map;
import java.util.TreeMap;

/** The document once more, as plainly as it can be written, with bits as texts: slow, and only for comparing. */
final class Model {
    private static final class Stop extends RuntimeException {
        private static final long serialVersionUID = 1L;
    }

    private static final class Fail extends RuntimeException {
        private static final long serialVersionUID = 1L;
    }

    /** A header that is taken: its number, its index's place, its files (rows of seven). */
    private static final class State {
        int number = 0;
        int first = 0;
        int sectors = 0;
        List<int[]> files = new ArrayList<>();
    }

    final int[][] image = new int[60][];
    private State state = new State();
    private final Map<Integer, Integer> greatest = new HashMap<>();
    private List<Integer> draft = new ArrayList<>();
    private final List<List<Integer>> added = new ArrayList<>();
    private final List<Integer> addedNames = new ArrayList<>();
    private final List<int[]> removed = new ArrayList<>();
    private int[] out = {};
    private int time = 0;
    private int limit = -1;
    private boolean down = false;
    int lastCodec = -1;

    Model() {
        for (int s = 0; s < 60; s++) {
            image[s] = Rig.sealed();
        }
    }

    private boolean good(int s) {
        return image[s][11] == Rig.check(image[s]);
    }

    private void writing(int s, int[] bytes) {
        if (limit == 0) {
            limit = -1;
            down = true;
            throw new Stop();
        }
        if (limit > 0) {
            limit--;
        }
        image[s] = Rig.sealed(Arrays.copyOf(bytes, 11));
    }

    private int[] xor(int... sectors) {
        int[] joined = new int[11];
        for (int s : sectors) {
            for (int p = 0; p < 11; p++) {
                joined[p] ^= image[s][p];
            }
        }
        return joined;
    }

    private static int[] dataOf(int g) {
        return new int[] {4 * g, 4 * g + 1, 4 * g + 2, 4 * g + 3};
    }

    private static int[] othersOf(int s) {
        int g = s < 48 ? s / 4 : s - 48;
        return Arrays.stream(new int[] {4 * g, 4 * g + 1, 4 * g + 2, 4 * g + 3, 48 + g}).filter(o -> o != s).toArray();
    }

    private void writeSector(int s, int[] bytes) {
        writing(s, bytes);
        writing(48 + s / 4, xor(dataOf(s / 4)));
    }

    private int[] read(int s) {
        if (good(s)) {
            return Arrays.copyOf(image[s], 11);
        }
        if (!Arrays.stream(othersOf(s)).allMatch(this::good)) {
            throw new Fail();
        }
        return xor(othersOf(s));
    }

    private int[] readAll(int first, int sectors) {
        int[] bytes = new int[11 * sectors];
        for (int i = 0; i < sectors; i++) {
            System.arraycopy(read(first + i), 0, bytes, 11 * i, 11);
        }
        return bytes;
    }

    private static String bits(int value, int count) {
        String s = Integer.toBinaryString(value);
        return "0".repeat(Math.max(0, count - s.length())) + s;
    }

    private static String matches(int[] b) {
        StringBuilder s = new StringBuilder();
        int i = 0;
        while (i < b.length) {
            int bestLength = 0;
            int bestDistance = 0;
            for (int d = 16; d >= 1; d--) {
                for (int l = 2; l <= 9; l++) {
                    boolean stands = i - d >= 0 && i + l <= b.length;
                    for (int j = 0; stands && j < l; j++) {
                        stands = b[i + j] == b[i + j - d];
                    }
                    if (stands && l >= bestLength) {
                        bestLength = l;
                        bestDistance = d;
                    }
                }
            }
            s.append(bestLength == 0 ? "0" + bits(b[i], 8) : "1" + bits(bestDistance - 1, 4) + bits(bestLength - 2, 3));
            i += Math.max(1, bestLength);
        }
        return s.toString();
    }

    private static String prefix(int[] b) {
        TreeMap<Integer, Integer> lengths = new TreeMap<>();
        List<List<Integer>> trees = new ArrayList<>();
        Map<List<Integer>, Integer> weights = new HashMap<>();
        for (int v : b) {
            if (!lengths.containsKey(v)) {
                lengths.put(v, 0);
                trees.add(List.of(v));
            }
            weights.merge(List.of(v), 1, Integer::sum);
        }
        while (trees.size() > 1) {
            trees.sort(Comparator.<List<Integer>>comparingInt(weights::get).thenComparingInt(t -> t.get(0)));
            List<Integer> one = trees.remove(0);
            List<Integer> two = trees.remove(0);
            List<Integer> both = new ArrayList<>(one);
            both.addAll(two);
            both.sort(null);
            both.forEach(v -> lengths.merge(v, 1, Integer::sum));
            weights.put(both, weights.get(one) + weights.get(two));
            trees.add(both);
        }
        if (lengths.size() == 1) {
            lengths.put(lengths.firstKey(), 1);
        }
        StringBuilder s = new StringBuilder(bits(lengths.size(), 7));
        lengths.forEach((v, l) -> s.append(bits(v, 8)).append(bits(l, 4)));
        Map<String, Integer> codes = codes(lengths);
        Map<Integer, String> back = new HashMap<>();
        codes.forEach((c, v) -> back.put(v, c));
        for (int v : b) {
            s.append(back.get(v));
        }
        return s.toString();
    }

    /** Codes that would need more bits than their length can never be read: they are left as too long texts. */
    private static Map<String, Integer> codes(TreeMap<Integer, Integer> lengths) {
        List<Integer> order = new ArrayList<>(lengths.keySet());
        order.sort(Comparator.comparingInt(lengths::get));
        Map<String, Integer> codes = new HashMap<>();
        int code = 0;
        for (int i = 0; i < order.size(); i++) {
            int length = lengths.get(order.get(i));
            if (i > 0) {
                code = code + 1 << length - lengths.get(order.get(i - 1));
            }
            String text = bits(code, length);
            if (text.length() == length) {
                codes.put(text, order.get(i));
            }
        }
        return codes;
    }

    private static int[] differences(int[] b) {
        int[] d = b.clone();
        for (int i = b.length - 1; i > 0; i--) {
            d[i] = Math.floorMod(b[i] - b[i - 1], 256);
        }
        return d;
    }

    static int[] block(int[] b) {
        StringBuilder stored = new StringBuilder();
        for (int v : b) {
            stored.append(bits(v, 8));
        }
        String[] all = {stored.toString(), matches(b), matches(differences(b)), b.length == 0 ? null : prefix(b)};
        int best = 0;
        for (int c = 1; c < 4; c++) {
            if (all[c] != null && (all[c].length() + 7) / 8 < (all[best].length() + 7) / 8) {
                best = c;
            }
        }
        String s = all[best] + "0".repeat((8 - all[best].length() % 8) % 8);
        int[] block = new int[3 + s.length() / 8];
        block[0] = best;
        block[1] = b.length;
        block[2] = s.length() / 8;
        for (int i = 3; i < block.length; i++) {
            block[i] = Integer.parseInt(s.substring(8 * i - 24, 8 * i - 16), 2);
        }
        return block;
    }

    private String row;

    private int next(int count) {
        if (row.length() < count) {
            throw new Fail();
        }
        int value = Integer.parseInt(row.substring(0, count), 2);
        row = row.substring(count);
        return value;
    }

    private static void need(boolean so) {
        if (!so) {
            throw new Fail();
        }
    }

    private int[] decode(int[] block) {
        need(block[0] <= 3 && block.length >= 3 + block[2]);
        int n = block[1];
        StringBuilder all = new StringBuilder();
        for (int i = 3; i < 3 + block[2]; i++) {
            all.append(bits(block[i], 8));
        }
        row = all.toString();
        List<Integer> b = new ArrayList<>();
        Map<String, Integer> codes = block[0] == 3 ? takeCodes() : null;
        while (b.size() < n) {
            if (block[0] == 0) {
                b.add(next(8));
            } else if (block[0] == 3) {
                String code = "";
                do {
                    need(code.length() < 15);
                    code += next(1);
                } while (!codes.containsKey(code));
                b.add(codes.get(code));
            } else if (next(1) == 0) {
                b.add(next(8));
            } else {
                int d = next(4) + 1;
                int l = next(3) + 2;
                need(d <= b.size() && b.size() + l <= n);
                for (int i = 0; i < l; i++) {
                    b.add(b.get(b.size() - d));
                }
            }
        }
        for (int i = 1; block[0] == 2 && i < n; i++) {
            b.set(i, (b.get(i) + b.get(i - 1)) % 256);
        }
        return b.stream().mapToInt(v -> v).toArray();
    }

    private Map<String, Integer> takeCodes() {
        TreeMap<Integer, Integer> lengths = new TreeMap<>();
        int count = next(7);
        need(count > 0);
        for (int i = 0; i < count; i++) {
            int v = next(8);
            int l = next(4);
            need(l > 0 && (i == 0 || v > lengths.lastKey()));
            lengths.put(v, l);
        }
        return codes(lengths);
    }

    private static boolean inside(int first, int count) {
        return first >= 2 && count >= 1 && first + count - 1 < 48;
    }

    private State take(int sector) {
        try {
            int[] h = read(sector);
            need(h[0] == 83 && h[1] == 65);
            State s = new State();
            s.number = h[2];
            s.first = h[3];
            s.sectors = h[4];
            if (s.sectors == 0) {
                return s;
            }
            need(inside(s.first, s.sectors));
            int[] b = readAll(s.first, s.sectors);
            need(b[0] >= 1 && b[0] <= 10 && 1 + 7 * b[0] <= b.length);
            int before = -1;
            for (int k = 0; k < b[0]; k++) {
                int[] f = Arrays.copyOfRange(b, 1 + 7 * k, 8 + 7 * k);
                need(f[0] < 8 && f[1] > 0 && f[5] <= 24 && inside(f[2], f[3]) && 256 * f[0] + f[1] > before);
                before = 256 * f[0] + f[1];
                s.files.add(f);
            }
            return s;
        } catch (Fail e) {
            return null;
        }
    }

    private void remember() {
        for (int[] f : state.files) {
            greatest.merge(f[0], f[1], Math::max);
        }
    }

    int open() {
        down = false;
        draft.clear();
        forget();
        State zero = take(0);
        State one = take(1);
        state = zero != null && one != null ? (one.number == (zero.number + 1) % 256 ? one : zero)
                : zero != null ? zero : one != null ? one : new State();
        greatest.clear();
        remember();
        time = state.files.stream().mapToInt(f -> f[6]).max().orElse(0);
        return state.files.size();
    }

    private void forget() {
        added.clear();
        addedNames.clear();
        removed.clear();
    }

    boolean write(int n, long w) {
        if (down || n < 1 || n > 8 || draft.size() + n > 24) {
            return false;
        }
        for (int i = 0; i < n; i++) {
            draft.add((int) (w >> 8 * i & 255));
        }
        return true;
    }

    int add(int name) {
        if (down) {
            return -9;
        }
        if (name < 0 || name > 7) {
            return -1;
        }
        if (added.size() == 4) {
            return -4;
        }
        added.add(draft);
        addedNames.add(name);
        draft = new ArrayList<>();
        return added.size();
    }

    private int[] find(int name, int version) {
        return state.files.stream().filter(f -> f[0] == name && f[1] == version).findFirst().orElse(null);
    }

    boolean remove(int name, int version) {
        int[] f = find(name, version);
        return !down && f != null && !removed.contains(f) && removed.add(f);
    }

    int drop() {
        if (down) {
            return -9;
        }
        int count = added.size() + removed.size();
        forget();
        return count;
    }

    private int place(boolean[] used, int count) {
        for (int first = 2; first + count <= 48; first++) {
            boolean free = true;
            for (int i = 0; i < count; i++) {
                free &= !used[first + i];
            }
            if (free) {
                Arrays.fill(used, first, first + count, true);
                return first;
            }
        }
        return -1;
    }

    int commit() {
        if (down) {
            return -9;
        }
        if (added.isEmpty() && removed.isEmpty()) {
            return 0;
        }
        boolean[] used = new boolean[48];
        if (state.sectors > 0) {
            Arrays.fill(used, state.first, state.first + state.sectors, true);
        }
        state.files.forEach(f -> Arrays.fill(used, f[2], f[2] + f[3], true));
        State s = new State();
        s.files.addAll(state.files);
        s.files.removeAll(removed);
        s.number = (state.number + 1) % 256;
        int newTime = time < 127 ? time + 1 : time;
        int[] bytes = added.stream().flatMap(List::stream).mapToInt(v -> v).toArray();
        int[] block = added.isEmpty() ? new int[0] : block(bytes);
        int blockSectors = (block.length + 10) / 11;
        int blockFirst = added.isEmpty() ? 0 : place(used, blockSectors);
        Map<Integer, Integer> versions = new HashMap<>(greatest);
        int begin = 0;
        for (int i = 0; i < added.size(); i++) {
            int version = versions.merge(addedNames.get(i), 1, Integer::sum);
            int size = added.get(i).size();
            s.files.add(new int[] {addedNames.get(i), version, blockFirst, blockSectors, begin, size, newTime});
            begin += size;
            if (version > 255) {
                return -4;
            }
        }
        if (blockFirst < 0 || s.files.size() > 10) {
            return -4;
        }
        s.files.sort(Comparator.comparingInt(f -> 256 * f[0] + f[1]));
        int[] index = new int[s.files.isEmpty() ? 0 : 1 + 7 * s.files.size()];
        for (int k = 0; k < s.files.size(); k++) {
            index[0] = s.files.size();
            System.arraycopy(s.files.get(k), 0, index, 1 + 7 * k, 7);
        }
        s.sectors = (index.length + 10) / 11;
        s.first = s.sectors == 0 ? 0 : place(used, s.sectors);
        if (s.first < 0) {
            return -4;
        }
        try {
            writeAll(blockFirst, block);
            writeAll(s.first, index);
            writeAll(s.number % 2, new int[] {83, 65, s.number, s.first, s.sectors});
        } catch (Stop e) {
            return -9;
        }
        lastCodec = block.length == 0 ? -1 : block[0];
        state = s;
        remember();
        forget();
        time = newTime;
        return 2 * (blockSectors + s.sectors + 1);
    }

    private void writeAll(int first, int[] bytes) {
        for (int i = 0; 11 * i < bytes.length; i++) {
            writeSector(first + i, Arrays.copyOfRange(bytes, 11 * i, 11 * i + 11));
        }
    }

    int extract(int name, int version) {
        if (down) {
            return -9;
        }
        int[] f = find(name, version);
        if (f == null) {
            return -1;
        }
        try {
            int[] bytes = decode(readAll(f[2], f[3]));
            need(bytes.length >= f[4] + f[5]);
            out = Arrays.copyOfRange(bytes, f[4], f[4] + f[5]);
            return out.length;
        } catch (Fail e) {
            return -2;
        }
    }

    int extracted(int i) {
        return down ? -9 : i >= 0 && i < out.length ? out[i] : -1;
    }

    int files() {
        return down ? -9 : state.files.size();
    }

    int file(int k, int w) {
        int[] fields = {0, 1, 5, 6, 2, 3};
        return down ? -9 : k < 0 || k >= state.files.size() || w < 0 || w > 5 ? -1 : state.files.get(k)[fields[w]];
    }

    int repair() {
        if (down) {
            return -9;
        }
        int staying = 0;
        try {
            for (int g = 0; g < 12; g++) {
                int[] bad = Arrays.stream(new int[] {4 * g, 4 * g + 1, 4 * g + 2, 4 * g + 3, 48 + g}).filter(s -> !good(s)).toArray();
                if (bad.length == 1) {
                    writing(bad[0], xor(othersOf(bad[0])));
                } else if (bad.length > 1) {
                    staying += bad.length;
                } else if (!Arrays.equals(xor(dataOf(g)), Arrays.copyOf(image[48 + g], 11))) {
                    writing(48 + g, xor(dataOf(g)));
                }
            }
        } catch (Stop e) {
            return -9;
        }
        return staying;
    }

    boolean limit(int n) {
        if (down || n < 0 || n > 200) {
            return false;
        }
        limit = n;
        return true;
    }

    boolean down() {
        return down;
    }

    boolean damage(int s, int p, int bits) {
        if (at(s, p) == -1 || bits < 1 || bits > 255) {
            return false;
        }
        image[s][p] ^= bits;
        return true;
    }

    int at(int s, int p) {
        return s < 0 || s > 59 || p < 0 || p > 11 ? -1 : image[s][p];
    }

    int number() {
        return down ? -9 : state.number;
    }
}
